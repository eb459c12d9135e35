theorem k_13_68 : (Jvm.Cond.constant "StaveHouseModel" (1060 : Nat) (-2147483648 : Int32)) ∈ wAll := wA_13 (j := 68) rfl rfl
theorem k_13_89 : (Jvm.Cond.constantLong "StaveHouseModel" (671 : Nat) (2 : Int64)) ∈ wAll := wA_13 (j := 89) rfl rfl
theorem k_12_106 : (Jvm.Cond.constantLong "StaveHouseModel" (849 : Nat) (4 : Int64)) ∈ wAll := wA_12 (j := 106) rfl rfl
theorem k_13_90 : (Jvm.Cond.constantLong "StaveHouseModel" (1061 : Nat) (8 : Int64)) ∈ wAll := wA_13 (j := 90) rfl rfl
theorem k_11_93 : (Jvm.Cond.fieldLink "StaveHouseModel" (278 : Nat) "StaveHouseModel" "sixTones" "[I") ∈ wAll := wA_11 (j := 93) rfl rfl
theorem k_12_154 : (Jvm.Cond.methodLink "StaveHouseModel" (16 : Nat) ({ cls := "StaveHouseModel", name := "is", desc := "(JJ)V" } : Jvm.MethodName)) ∈ wAll := wA_12 (j := 154) rfl rfl
theorem k_12_156 : (Jvm.Cond.instanceMethod ({ cls := "StaveHouseModel", name := "is", desc := "(JJ)V" } : Jvm.MethodName)) ∈ wAll := wA_12 (j := 156) rfl rfl
theorem ks_136 : (Jvm.Cond.selects "StaveHouseModel" ({ cls := "StaveHouseModel", name := "is", desc := "(JJ)V" } : Jvm.MethodName) ({ cls := "StaveHouseModel", name := "is", desc := "(JJ)V" } : Jvm.MethodName)) ∈ wAll := wA_s (j := 136) rfl rfl
theorem k_12_157 : (Jvm.Cond.code ({ cls := "StaveHouseModel", name := "is", desc := "(JJ)V" } : Jvm.MethodName) prog_15_method_2_code (7 : Nat) (Option.none : Option Jvm.ClassFile.FieldType)) ∈ wAll := wA_12 (j := 157) rfl rfl
theorem k_9_144 : (Jvm.Cond.fieldLink "StaveHouseModel" (723 : Nat) "StaveHouseModel$Piece" "notes" "[I") ∈ wAll := wA_9 (j := 144) rfl rfl
theorem k_9_178 : (Jvm.Cond.fieldLink "StaveHouseModel" (746 : Nat) "StaveHouseModel$Piece" "of" "[I") ∈ wAll := wA_9 (j := 178) rfl rfl
theorem k_9_180 : (Jvm.Cond.fieldLink "StaveHouseModel" (749 : Nat) "StaveHouseModel$Piece" "bar" "[I") ∈ wAll := wA_9 (j := 180) rfl rfl
theorem k_9_182 : (Jvm.Cond.fieldLink "StaveHouseModel" (752 : Nat) "StaveHouseModel$Piece" "inUp" "[J") ∈ wAll := wA_9 (j := 182) rfl rfl
theorem k_11_52 : (Jvm.Cond.fieldLink "StaveHouseModel" (709 : Nat) "StaveHouseModel" "hereUp" "J") ∈ wAll := wA_11 (j := 52) rfl rfl
theorem k_9_184 : (Jvm.Cond.fieldLink "StaveHouseModel" (755 : Nat) "StaveHouseModel$Piece" "inDown" "[J") ∈ wAll := wA_9 (j := 184) rfl rfl
theorem k_11_53 : (Jvm.Cond.fieldLink "StaveHouseModel" (712 : Nat) "StaveHouseModel" "hereDown" "J") ∈ wAll := wA_11 (j := 53) rfl rfl
theorem k_9_186 : (Jvm.Cond.fieldLink "StaveHouseModel" (758 : Nat) "StaveHouseModel$Piece" "form" "[I") ∈ wAll := wA_9 (j := 186) rfl rfl
theorem k_9_188 : (Jvm.Cond.fieldLink "StaveHouseModel" (761 : Nat) "StaveHouseModel$Piece" "points" "[I") ∈ wAll := wA_9 (j := 188) rfl rfl
theorem k_13_167 : (Jvm.Cond.constantLong "StaveHouseModel" (683 : Nat) (7 : Int64)) ∈ wAll := wA_13 (j := 167) rfl rfl
theorem k_13_166 : (Jvm.Cond.constantLong "StaveHouseModel" (681 : Nat) (3 : Int64)) ∈ wAll := wA_13 (j := 166) rfl rfl
theorem k_9_130 : (Jvm.Cond.fieldLink "StaveHouseModel" (407 : Nat) "StaveHouseModel$Piece" "d" "I") ∈ wAll := wA_9 (j := 130) rfl rfl
theorem k_9_129 : (Jvm.Cond.fieldLink "StaveHouseModel" (404 : Nat) "StaveHouseModel$Piece" "n" "I") ∈ wAll := wA_9 (j := 129) rfl rfl
theorem k_13_144 : (Jvm.Cond.methodLink "StaveHouseModel" (660 : Nat) ({ cls := "StaveHouseModel", name := "often", desc := "(JJJJ)J" } : Jvm.MethodName)) ∈ wAll := wA_13 (j := 144) rfl rfl
theorem k_13_145 : (Jvm.Cond.static ({ cls := "StaveHouseModel", name := "often", desc := "(JJJJ)J" } : Jvm.MethodName)) ∈ wAll := wA_13 (j := 145) rfl rfl
theorem k_13_146 : (Jvm.Cond.code ({ cls := "StaveHouseModel", name := "often", desc := "(JJJJ)J" } : Jvm.MethodName) prog_15_method_7_code (8 : Nat) (Option.some Jvm.ClassFile.FieldType.long)) ∈ wAll := wA_13 (j := 146) rfl rfl
theorem k_13_104 : (Jvm.Cond.methodLink "StaveHouseModel" (537 : Nat) ({ cls := "StaveHouseModel", name := "compare", desc := "(JJJJ)I" } : Jvm.MethodName)) ∈ wAll := wA_13 (j := 104) rfl rfl
theorem k_13_105 : (Jvm.Cond.static ({ cls := "StaveHouseModel", name := "compare", desc := "(JJJJ)I" } : Jvm.MethodName)) ∈ wAll := wA_13 (j := 105) rfl rfl
theorem k_13_106 : (Jvm.Cond.code ({ cls := "StaveHouseModel", name := "compare", desc := "(JJJJ)I" } : Jvm.MethodName) prog_15_method_6_code (14 : Nat) (Option.some Jvm.ClassFile.FieldType.int)) ∈ wAll := wA_13 (j := 106) rfl rfl
theorem k_13_230 : (Jvm.Cond.constantLong "StaveHouseModel" (1145 : Nat) (4242425254 : Int64)) ∈ wAll := wA_13 (j := 230) rfl rfl
theorem k_13_229 : (Jvm.Cond.constantLong "StaveHouseModel" (1143 : Nat) (4004316221 : Int64)) ∈ wAll := wA_13 (j := 229) rfl rfl
theorem k_13_228 : (Jvm.Cond.constantLong "StaveHouseModel" (1141 : Nat) (3779571220 : Int64)) ∈ wAll := wA_13 (j := 228) rfl rfl
theorem k_13_227 : (Jvm.Cond.constantLong "StaveHouseModel" (1139 : Nat) (3567440188 : Int64)) ∈ wAll := wA_13 (j := 227) rfl rfl
theorem k_13_226 : (Jvm.Cond.constantLong "StaveHouseModel" (1137 : Nat) (3367215155 : Int64)) ∈ wAll := wA_13 (j := 226) rfl rfl
theorem k_13_225 : (Jvm.Cond.constantLong "StaveHouseModel" (1135 : Nat) (3178227890 : Int64)) ∈ wAll := wA_13 (j := 225) rfl rfl
theorem k_13_224 : (Jvm.Cond.constantLong "StaveHouseModel" (1133 : Nat) (2999847666 : Int64)) ∈ wAll := wA_13 (j := 224) rfl rfl
theorem k_13_223 : (Jvm.Cond.constantLong "StaveHouseModel" (1131 : Nat) (2831479154 : Int64)) ∈ wAll := wA_13 (j := 223) rfl rfl
theorem k_13_222 : (Jvm.Cond.constantLong "StaveHouseModel" (1129 : Nat) (2672560440 : Int64)) ∈ wAll := wA_13 (j := 222) rfl rfl
theorem k_13_221 : (Jvm.Cond.constantLong "StaveHouseModel" (1127 : Nat) (2522561148 : Int64)) ∈ wAll := wA_13 (j := 221) rfl rfl
theorem k_13_220 : (Jvm.Cond.constantLong "StaveHouseModel" (1125 : Nat) (2380980670 : Int64)) ∈ wAll := wA_13 (j := 220) rfl rfl
theorem k_13_219 : (Jvm.Cond.constantLong "StaveHouseModel" (1123 : Nat) (2247346494 : Int64)) ∈ wAll := wA_13 (j := 219) rfl rfl
theorem k_10_4 : (Jvm.Cond.fieldLink "StaveHouseModel" (952 : Nat) "StaveHouseModel$Piece" "last" "I") ∈ wAll := wA_10 (j := 4) rfl rfl
theorem k_10_5 : (Jvm.Cond.fieldLink "StaveHouseModel" (955 : Nat) "StaveHouseModel$Piece" "predicted" "I") ∈ wAll := wA_10 (j := 5) rfl rfl
theorem k_11_94 : (Jvm.Cond.fieldLink "StaveHouseModel" (281 : Nat) "StaveHouseModel" "table" "[I") ∈ wAll := wA_11 (j := 94) rfl rfl
theorem k_10_6 : (Jvm.Cond.fieldLink "StaveHouseModel" (958 : Nat) "StaveHouseModel$Piece" "index" "I") ∈ wAll := wA_10 (j := 6) rfl rfl
theorem k_14_1 : (Jvm.Cond.methodLink "StaveHouseModel" (1161 : Nat) ({ cls := "StaveHouseModel", name := "held", desc := "(III)I" } : Jvm.MethodName)) ∈ wAll := wA_14 (j := 1) rfl rfl
theorem k_14_2 : (Jvm.Cond.static ({ cls := "StaveHouseModel", name := "held", desc := "(III)I" } : Jvm.MethodName)) ∈ wAll := wA_14 (j := 2) rfl rfl
theorem k_14_3 : (Jvm.Cond.code ({ cls := "StaveHouseModel", name := "held", desc := "(III)I" } : Jvm.MethodName) prog_15_method_166_code (3 : Nat) (Option.some Jvm.ClassFile.FieldType.int)) ∈ wAll := wA_14 (j := 3) rfl rfl
theorem k_11_95 : (Jvm.Cond.fieldLink "StaveHouseModel" (284 : Nat) "StaveHouseModel" "moves" "[I") ∈ wAll := wA_11 (j := 95) rfl rfl
theorem k_10_3 : (Jvm.Cond.fieldLink "StaveHouseModel" (949 : Nat) "StaveHouseModel$Piece" "latest" "I") ∈ wAll := wA_10 (j := 3) rfl rfl
theorem k_10_10 : (Jvm.Cond.fieldLink "StaveHouseModel" (1169 : Nat) "StaveHouseModel$Piece" "codes" "[I") ∈ wAll := wA_10 (j := 10) rfl rfl
theorem k_10_8 : (Jvm.Cond.fieldLink "StaveHouseModel" (1166 : Nat) "StaveHouseModel$Piece" "heard" "[I") ∈ wAll := wA_10 (j := 8) rfl rfl
theorem k_11_98 : (Jvm.Cond.fieldLink "StaveHouseModel" (1191 : Nat) "StaveHouseModel" "classes" "I") ∈ wAll := wA_11 (j := 98) rfl rfl
theorem k_11_96 : (Jvm.Cond.fieldLink "StaveHouseModel" (287 : Nat) "StaveHouseModel" "classLetter" "[I") ∈ wAll := wA_11 (j := 96) rfl rfl
theorem k_11_97 : (Jvm.Cond.fieldLink "StaveHouseModel" (290 : Nat) "StaveHouseModel" "classAlt" "[I") ∈ wAll := wA_11 (j := 97) rfl rfl
theorem k_10_18 : (Jvm.Cond.fieldLink "StaveHouseModel" (1240 : Nat) "StaveHouseModel$Piece" "faults" "I") ∈ wAll := wA_10 (j := 18) rfl rfl
theorem k_10_26 : (Jvm.Cond.fieldLink "StaveHouseModel" (1263 : Nat) "StaveHouseModel$Piece" "faultSecond" "[I") ∈ wAll := wA_10 (j := 26) rfl rfl
theorem k_10_24 : (Jvm.Cond.fieldLink "StaveHouseModel" (1260 : Nat) "StaveHouseModel$Piece" "faultFirst" "[I") ∈ wAll := wA_10 (j := 24) rfl rfl
theorem k_10_22 : (Jvm.Cond.fieldLink "StaveHouseModel" (1257 : Nat) "StaveHouseModel$Piece" "faultKind" "[I") ∈ wAll := wA_10 (j := 22) rfl rfl
theorem k_10_20 : (Jvm.Cond.fieldLink "StaveHouseModel" (1254 : Nat) "StaveHouseModel$Piece" "faultMoment" "[I") ∈ wAll := wA_10 (j := 20) rfl rfl
theorem k_9_142 : (Jvm.Cond.fieldLink "StaveHouseModel" (515 : Nat) "StaveHouseModel$Piece" "events" "[I") ∈ wAll := wA_9 (j := 142) rfl rfl
theorem k_12_158 : (Jvm.Cond.methodLink "StaveHouseModel" (575 : Nat) ({ cls := "StaveHouseModel", name := "tone", desc := "(II)I" } : Jvm.MethodName)) ∈ wAll := wA_12 (j := 158) rfl rfl
theorem k_12_159 : (Jvm.Cond.static ({ cls := "StaveHouseModel", name := "tone", desc := "(II)I" } : Jvm.MethodName)) ∈ wAll := wA_12 (j := 159) rfl rfl
theorem k_12_160 : (Jvm.Cond.code ({ cls := "StaveHouseModel", name := "tone", desc := "(II)I" } : Jvm.MethodName) prog_15_method_17_code (4 : Nat) (Option.some Jvm.ClassFile.FieldType.int)) ∈ wAll := wA_12 (j := 160) rfl rfl
theorem W_prog_15_method_149_code_0 : chW prog_15_method_149_code 0 [42, 180, 4, 21, 153, 0, 22, 27, 155, 0, 18, 27, 16, 8, 162, 0, 12, 42, 180, 0, 230, 27, 46, 167, 0, 6, 19, 4, 36, 172] := chW_of (by decide +kernel)
theorem W_prog_15_method_150_code_0 : chW prog_15_method_150_code 0 [42, 180, 4, 21, 153, 0, 18, 27, 155, 0, 14, 27, 42, 180, 0, 230, 16, 7, 46, 161, 0, 7, 20, 3, 79, 173, 28, 154, 0, 11, 42, 180, 0, 236, 27, 46] := chW_of (by decide +kernel)
theorem W_prog_15_method_150_code_32 : chW prog_15_method_150_code 32 [0, 236, 27, 46, 133, 173, 28, 4, 160, 0, 11, 42, 180, 0, 239, 27, 46, 133, 173, 28, 5, 160, 0, 11, 42, 180, 0, 242, 27, 46, 133, 173, 28, 6, 160, 0] := chW_of (by decide +kernel)
theorem W_prog_15_method_150_code_64 : chW prog_15_method_150_code 64 [28, 6, 160, 0, 11, 42, 180, 0, 245, 27, 46, 133, 173, 28, 7, 160, 0, 10, 42, 180, 0, 248, 27, 47, 173, 28, 8, 160, 0, 12, 42, 180, 0, 251, 27, 47] := chW_of (by decide +kernel)
theorem W_prog_15_method_150_code_96 : chW prog_15_method_150_code 96 [0, 251, 27, 47, 167, 0, 6, 20, 3, 79, 173] := chW_of (by decide +kernel)
theorem W_prog_15_method_152_code_0 : chW prog_15_method_152_code 0 [3, 61, 3, 62, 29, 42, 180, 0, 230, 16, 7, 46, 162, 0, 29, 28, 154, 0, 13, 42, 180, 0, 236, 29, 46, 27, 160, 0, 7, 4, 167, 0, 4, 3, 61, 132] := chW_of (by decide +kernel)
theorem W_prog_15_method_152_code_32 : chW prog_15_method_152_code 32 [4, 3, 61, 132, 3, 1, 167, 255, 222, 28, 172] := chW_of (by decide +kernel)
theorem d_15_152_35 : decode prog_15_method_152_code 35 = .ok (.iinc 3 1, 3) := D_132 W_prog_15_method_152_code_32 3 rfl rfl rfl
theorem W_prog_15_method_151_code_0 : chW prog_15_method_151_code 0 [20, 2, 159, 31, 105, 29, 133, 105, 20, 3, 81, 42, 180, 0, 230, 4, 46, 133, 105, 97, 20, 4, 37, 42, 180, 0, 230, 4, 46, 133, 105, 109, 173] := chW_of (by decide +kernel)
theorem W_prog_15_method_151_code_32 : chW prog_15_method_151_code 32 [173] := chW_of (by decide +kernel)
theorem W_prog_15_method_155_code_0 : chW prog_15_method_155_code 0 [3, 62, 2, 54, 4, 29, 16, 6, 162, 0, 84, 17, 0, 128, 54, 5, 27, 54, 6, 21, 6, 28, 162, 0, 42, 42, 180, 0, 242, 21, 6, 46, 21, 4, 164, 0] := chW_of (by decide +kernel)
theorem W_prog_15_method_155_code_64 : chW prog_15_method_155_code 64 [21, 5, 17, 0, 128, 160, 0, 5, 29, 172, 42, 180, 1, 22, 29, 21, 5, 79, 21, 5, 54, 4, 132, 3, 1, 167, 255, 172, 29, 172] := chW_of (by decide +kernel)
theorem d_15_155_86 : decode prog_15_method_155_code 86 = .ok (.iinc 3 1, 3) := D_132 W_prog_15_method_155_code_64 22 rfl rfl rfl
theorem W_prog_15_method_155_code_32 : chW prog_15_method_155_code 32 [21, 4, 164, 0, 24, 42, 180, 0, 242, 21, 6, 46, 21, 5, 162, 0, 12, 42, 180, 0, 242, 21, 6, 46, 54, 5, 132, 6, 1, 167, 255, 214, 21, 5, 17, 0] := chW_of (by decide +kernel)
theorem d_15_155_58 : decode prog_15_method_155_code 58 = .ok (.iinc 6 1, 3) := D_132 W_prog_15_method_155_code_32 26 rfl rfl rfl
theorem W_prog_15_method_6_code_0 : chW prog_15_method_6_code 0 [32, 22, 6, 184, 0, 3, 55, 8, 30, 22, 6, 22, 8, 109, 105, 55, 10, 22, 4, 32, 22, 8, 109, 105, 55, 12, 22, 10, 22, 12, 148, 156, 0, 7, 2, 167] := chW_of (by decide +kernel)
theorem W_prog_15_method_6_code_32 : chW prog_15_method_6_code 32 [0, 7, 2, 167, 0, 16, 22, 10, 22, 12, 148, 158, 0, 7, 4, 167, 0, 4, 3, 172] := chW_of (by decide +kernel)
theorem W_prog_15_method_125_code_0 : chW prog_15_method_125_code 0 [4, 61, 27, 28, 108, 16, 9, 164, 0, 11, 28, 16, 10, 104, 61, 167, 255, 243, 28, 158, 0, 24, 42, 16, 48, 27, 28, 108, 16, 10, 112, 96, 182, 3, 196, 28] := chW_of (by decide +kernel)
theorem W_prog_15_method_125_code_32 : chW prog_15_method_125_code 32 [182, 3, 196, 28, 16, 10, 108, 61, 167, 255, 234, 177] := chW_of (by decide +kernel)
theorem W_prog_15_method_4_code_0 : chW prog_15_method_4_code 0 [33, 22, 7, 184, 0, 3, 55, 9, 42, 31, 22, 7, 22, 9, 109, 105, 22, 5, 33, 22, 9, 109, 105, 101, 33, 22, 9, 109, 22, 7, 105, 182, 0, 16, 177] := chW_of (by decide +kernel)
theorem W_prog_15_method_4_code_32 : chW prog_15_method_4_code 32 [0, 16, 177] := chW_of (by decide +kernel)
theorem W_prog_15_method_7_code_0 : chW prog_15_method_7_code 0 [30, 22, 6, 105, 32, 22, 4, 105, 109, 173] := chW_of (by decide +kernel)
theorem W_prog_15_method_89_code_0 : chW prog_15_method_89_code 0 [17, 3, 32, 28, 104, 43, 180, 2, 211, 28, 46, 96, 54, 7, 43, 180, 2, 211, 28, 92, 46, 4, 96, 79, 43, 180, 2, 211, 28, 46, 17, 3, 32, 164, 0, 4] := chW_of (by decide +kernel)
theorem W_prog_15_method_89_code_32 : chW prog_15_method_89_code 32 [32, 164, 0, 4, 177, 43, 180, 2, 234, 21, 7, 29, 79, 43, 180, 2, 237, 21, 7, 21, 4, 79, 43, 180, 2, 240, 21, 7, 42, 180, 2, 197, 80, 43, 180, 2] := chW_of (by decide +kernel)
theorem W_prog_15_method_89_code_64 : chW prog_15_method_89_code 64 [80, 43, 180, 2, 243, 21, 7, 42, 180, 2, 200, 80, 43, 180, 2, 246, 21, 7, 21, 5, 79, 43, 180, 2, 249, 21, 7, 21, 6, 79, 177] := chW_of (by decide +kernel)
theorem W_prog_15_method_5_code_0 : chW prog_15_method_5_code 0 [31, 22, 7, 184, 0, 3, 55, 9, 22, 5, 33, 184, 0, 3, 55, 11, 42, 31, 22, 9, 109, 22, 5, 22, 11, 109, 105, 33, 22, 11, 109, 22, 7, 22, 9, 109] := chW_of (by decide +kernel)
theorem W_prog_15_method_5_code_32 : chW prog_15_method_5_code 32 [7, 22, 9, 109, 105, 182, 0, 16, 177] := chW_of (by decide +kernel)
theorem W_prog_15_method_82_code_0 : chW prog_15_method_82_code 0 [26, 154, 0, 7, 10, 167, 0, 17, 26, 4, 160, 0, 9, 20, 2, 169, 167, 0, 6, 20, 2, 171, 173] := chW_of (by decide +kernel)
theorem W_prog_15_method_83_code_0 : chW prog_15_method_83_code 0 [10, 26, 121, 10, 27, 121, 105, 173] := chW_of (by decide +kernel)
theorem W_prog_15_method_77_code_0 : chW prog_15_method_77_code 0 [42, 180, 1, 151, 16, 8, 159, 0, 12, 42, 180, 1, 151, 16, 16, 160, 0, 16, 42, 180, 1, 148, 6, 112, 154, 0, 7, 4, 167, 0, 4, 3, 172] := chW_of (by decide +kernel)
theorem W_prog_15_method_77_code_32 : chW prog_15_method_77_code 32 [172] := chW_of (by decide +kernel)
theorem W_prog_15_method_8_code_0 : chW prog_15_method_8_code 0 [30, 22, 6, 105, 32, 22, 4, 105, 113, 9, 148, 154, 0, 7, 4, 167, 0, 4, 3, 172] := chW_of (by decide +kernel)
theorem W_prog_15_method_80_code_0 : chW prog_15_method_80_code 0 [30, 32, 22, 8, 22, 10, 184, 2, 148, 10, 97, 55, 12, 22, 12, 22, 8, 105, 22, 10, 22, 4, 22, 6, 184, 2, 25, 156, 0, 7, 4, 167, 0, 4, 3, 172] := chW_of (by decide +kernel)
theorem W_prog_15_method_80_code_32 : chW prog_15_method_80_code 32 [0, 4, 3, 172] := chW_of (by decide +kernel)
theorem W_prog_15_method_90_code_0 : chW prog_15_method_90_code 0 [42, 180, 2, 234, 17, 3, 32, 27, 104, 28, 96, 46, 62, 29, 155, 0, 18, 42, 180, 2, 86, 17, 3, 232, 27, 104, 29, 96, 46, 154, 0, 7, 2, 167, 0, 10] := chW_of (by decide +kernel)
theorem W_prog_15_method_90_code_32 : chW prog_15_method_90_code 32 [2, 167, 0, 10, 17, 3, 232, 27, 104, 29, 96, 172] := chW_of (by decide +kernel)
theorem W_prog_15_method_162_code_0 : chW prog_15_method_162_code 0 [26, 154, 0, 7, 20, 4, 99, 173, 26, 4, 160, 0, 7, 20, 4, 101, 173, 26, 5, 160, 0, 7, 20, 4, 103, 173, 26, 6, 160, 0, 7, 20, 4, 105, 173, 26] := chW_of (by decide +kernel)
theorem W_prog_15_method_162_code_32 : chW prog_15_method_162_code 32 [4, 105, 173, 26, 7, 160, 0, 7, 20, 4, 107, 173, 26, 8, 160, 0, 7, 20, 4, 109, 173, 26, 16, 6, 160, 0, 7, 20, 4, 111, 173, 26, 16, 7, 160, 0] := chW_of (by decide +kernel)
theorem W_prog_15_method_162_code_64 : chW prog_15_method_162_code 64 [16, 7, 160, 0, 7, 20, 4, 113, 173, 26, 16, 8, 160, 0, 7, 20, 4, 115, 173, 26, 16, 9, 160, 0, 7, 20, 4, 117, 173, 26, 16, 10, 160, 0, 9, 20] := chW_of (by decide +kernel)
theorem W_prog_15_method_162_code_96 : chW prog_15_method_162_code 96 [160, 0, 9, 20, 4, 119, 167, 0, 6, 20, 4, 121, 173] := chW_of (by decide +kernel)
theorem W_prog_15_method_165_code_0 : chW prog_15_method_165_code 0 [27, 17, 0, 128, 162, 0, 13, 5, 27, 104, 17, 0, 128, 100, 167, 0, 10, 17, 1, 127, 5, 27, 104, 100, 61, 26, 154, 0, 18, 27, 17, 0, 128, 162, 0, 8] := chW_of (by decide +kernel)
theorem W_prog_15_method_165_code_32 : chW prog_15_method_165_code 32 [128, 162, 0, 8, 16, 96, 167, 0, 5, 16, 160, 172, 26, 4, 160, 0, 9, 27, 17, 0, 128, 100, 172, 26, 5, 160, 0, 5, 28, 172, 28, 17, 0, 128, 28, 156] := chW_of (by decide +kernel)
theorem W_prog_15_method_165_code_64 : chW prog_15_method_165_code 64 [0, 128, 28, 156, 0, 8, 28, 116, 167, 0, 4, 28, 100, 104, 16, 32, 108, 172] := chW_of (by decide +kernel)
theorem W_prog_15_method_163_code_0 : chW prog_15_method_163_code 0 [26, 16, 40, 162, 0, 12, 17, 1, 0, 26, 104, 16, 40, 108, 172, 17, 1, 0, 26, 16, 40, 100, 16, 16, 108, 100, 60, 27, 17, 0, 128, 162, 0, 9, 17, 0] := chW_of (by decide +kernel)
theorem W_prog_15_method_163_code_32 : chW prog_15_method_163_code 32 [0, 9, 17, 0, 128, 167, 0, 4, 27, 172] := chW_of (by decide +kernel)
theorem W_prog_15_method_166_code_0 : chW prog_15_method_166_code 0 [26, 27, 162, 0, 7, 27, 167, 0, 13, 26, 28, 164, 0, 7, 28, 167, 0, 4, 26, 172] := chW_of (by decide +kernel)
theorem W_prog_15_method_169_code_0 : chW prog_15_method_169_code 0 [43, 180, 3, 184, 43, 180, 3, 187, 100, 61, 42, 180, 1, 25, 43, 180, 3, 190, 46, 62, 3, 54, 4, 28, 156, 0, 7, 4, 167, 0, 4, 3, 54, 5, 21, 5] := chW_of (by decide +kernel)
theorem W_prog_15_method_169_code_32 : chW prog_15_method_169_code 32 [54, 5, 21, 5, 153, 0, 10, 16, 8, 54, 4, 28, 116, 61, 29, 16, 8, 108, 54, 6, 28, 29, 161, 0, 16, 132, 4, 4, 28, 29, 100, 61, 21, 6, 29, 96] := chW_of (by decide +kernel)
theorem d_15_169_57 : decode prog_15_method_169_code 57 = .ok (.iinc 4 4, 3) := D_132 W_prog_15_method_169_code_32 25 rfl rfl rfl
theorem W_prog_15_method_169_code_64 : chW prog_15_method_169_code 64 [21, 6, 29, 96, 54, 6, 28, 29, 5, 108, 161, 0, 20, 132, 4, 2, 28, 29, 5, 108, 100, 61, 21, 6, 29, 5, 108, 96, 54, 6, 28, 29, 7, 108, 161, 0] := chW_of (by decide +kernel)
theorem d_15_169_77 : decode prog_15_method_169_code 77 = .ok (.iinc 4 2, 3) := D_132 W_prog_15_method_169_code_64 13 rfl rfl rfl
theorem W_prog_15_method_169_code_96 : chW prog_15_method_169_code 96 [7, 108, 161, 0, 14, 132, 4, 1, 21, 6, 29, 7, 108, 96, 54, 6, 43, 43, 180, 3, 187, 21, 5, 153, 0, 9, 21, 6, 116, 167, 0, 5, 21, 6, 96, 17] := chW_of (by decide +kernel)
theorem d_15_169_101 : decode prog_15_method_169_code 101 = .ok (.iinc 4 1, 3) := D_132 W_prog_15_method_169_code_96 5 rfl rfl rfl
theorem W_prog_15_method_169_code_128 : chW prog_15_method_169_code 128 [21, 6, 96, 17, 128, 0, 17, 127, 255, 184, 4, 137, 181, 3, 187, 43, 43, 180, 3, 190, 42, 180, 1, 28, 21, 4, 16, 8, 112, 46, 96, 3, 16, 88, 184, 4] := chW_of (by decide +kernel)
theorem W_prog_15_method_169_code_160 : chW prog_15_method_169_code 160 [16, 88, 184, 4, 137, 181, 3, 190, 21, 4, 172] := chW_of (by decide +kernel)
theorem W_prog_15_method_170_code_0 : chW prog_15_method_170_code 0 [42, 27, 182, 3, 83, 58, 4, 25, 4, 198, 0, 24, 25, 4, 180, 3, 147, 153, 0, 16, 28, 155, 0, 12, 28, 25, 4, 180, 3, 181, 161, 0, 7, 19, 4, 36] := chW_of (by decide +kernel)
theorem W_prog_15_method_170_code_32 : chW prog_15_method_170_code 32 [7, 19, 4, 36, 172, 29, 154, 0, 13, 25, 4, 180, 4, 142, 28, 46, 167, 0, 21, 29, 4, 160, 0, 13, 25, 4, 180, 4, 145, 28, 46, 167, 0, 6, 19, 4] := chW_of (by decide +kernel)
theorem W_prog_15_method_170_code_64 : chW prog_15_method_170_code 64 [0, 6, 19, 4, 36, 172] := chW_of (by decide +kernel)
theorem W_prog_15_method_174_code_0 : chW prog_15_method_174_code 0 [3, 62, 29, 42, 180, 4, 167, 162, 0, 30, 42, 180, 1, 31, 29, 46, 27, 160, 0, 14, 42, 180, 1, 34, 29, 46, 28, 160, 0, 4, 177, 132, 3, 1, 167, 255] := chW_of (by decide +kernel)
theorem W_prog_15_method_174_code_32 : chW prog_15_method_174_code 32 [3, 1, 167, 255, 224, 42, 180, 1, 31, 42, 180, 4, 167, 27, 79, 42, 180, 1, 34, 42, 180, 4, 167, 28, 79, 42, 89, 180, 4, 167, 4, 96, 181, 4, 167, 177] := chW_of (by decide +kernel)
theorem W_prog_15_method_174_code_64 : chW prog_15_method_174_code 64 [181, 4, 167, 177] := chW_of (by decide +kernel)
theorem d_15_174_31 : decode prog_15_method_174_code 31 = .ok (.iinc 3 1, 3) := D_132 W_prog_15_method_174_code_0 31 rfl rfl rfl
theorem W_prog_15_method_178_code_0 : chW prog_15_method_178_code 0 [26, 16, 8, 160, 0, 13, 27, 156, 0, 7, 6, 167, 0, 4, 2, 172, 26, 155, 0, 11, 26, 16, 7, 159, 0, 5, 2, 172, 27, 156, 0, 7, 3, 167, 0, 24] := chW_of (by decide +kernel)
theorem W_prog_15_method_178_code_32 : chW prog_15_method_178_code 32 [3, 167, 0, 24, 27, 16, 10, 160, 0, 7, 7, 167, 0, 14, 27, 16, 11, 160, 0, 7, 8, 167, 0, 4, 2, 172] := chW_of (by decide +kernel)
theorem W_prog_15_method_179_code_0 : chW prog_15_method_179_code 0 [26, 16, 6, 160, 0, 35, 27, 156, 0, 7, 5, 167, 0, 26, 27, 16, 10, 160, 0, 8, 16, 7, 167, 0, 15, 27, 16, 9, 160, 0, 8, 16, 8, 167, 0, 4] := chW_of (by decide +kernel)
theorem W_prog_15_method_179_code_32 : chW prog_15_method_179_code 32 [8, 167, 0, 4, 2, 172, 26, 155, 0, 11, 26, 16, 7, 159, 0, 5, 2, 172, 27, 156, 0, 7, 4, 167, 0, 26, 27, 16, 10, 160, 0, 8, 16, 6, 167, 0] := chW_of (by decide +kernel)
theorem W_prog_15_method_179_code_64 : chW prog_15_method_179_code 64 [16, 6, 167, 0, 15, 27, 16, 11, 160, 0, 8, 16, 9, 167, 0, 4, 2, 172] := chW_of (by decide +kernel)
theorem W_prog_15_method_194_code_0 : chW prog_15_method_194_code 0 [42, 27, 182, 3, 83, 58, 4, 25, 4, 198, 0, 16, 28, 155, 0, 12, 28, 25, 4, 180, 4, 216, 161, 0, 5, 2, 172, 29, 154, 0, 11, 25, 4, 180, 4, 230] := chW_of (by decide +kernel)
theorem W_prog_15_method_194_code_32 : chW prog_15_method_194_code 32 [4, 180, 4, 230, 28, 46, 172, 29, 4, 160, 0, 11, 25, 4, 180, 4, 233, 28, 46, 172, 29, 5, 160, 0, 11, 25, 4, 180, 4, 236, 28, 46, 172, 29, 6, 160] := chW_of (by decide +kernel)
theorem W_prog_15_method_194_code_64 : chW prog_15_method_194_code 64 [172, 29, 6, 160, 0, 13, 25, 4, 180, 4, 239, 28, 46, 167, 0, 4, 2, 172] := chW_of (by decide +kernel)
theorem W_prog_15_method_196_code_0 : chW prog_15_method_196_code 0 [3, 61, 28, 42, 180, 2, 3, 27, 46, 162, 0, 24, 42, 180, 2, 86, 17, 3, 232, 27, 104, 28, 96, 46, 154, 0, 9, 132, 2, 1, 167, 255, 228, 28, 42, 180] := chW_of (by decide +kernel)
theorem d_15_196_27 : decode prog_15_method_196_code 27 = .ok (.iinc 2 1, 3) := D_132 W_prog_15_method_196_code_0 27 rfl rfl rfl
theorem W_prog_15_method_196_code_32 : chW prog_15_method_196_code 32 [228, 28, 42, 180, 2, 3, 27, 46, 162, 0, 13, 17, 3, 232, 27, 104, 28, 96, 167, 0, 4, 2, 172] := chW_of (by decide +kernel)
theorem W_prog_15_method_182_code_0 : chW prog_15_method_182_code 0 [2, 61, 16, 6, 27, 104, 62, 29, 16, 6, 27, 104, 42, 180, 2, 86, 27, 46, 96, 162, 0, 48, 28, 155, 0, 36, 42, 180, 2, 103, 29, 46, 42, 180, 2, 106] := chW_of (by decide +kernel)
theorem W_prog_15_method_182_code_64 : chW prog_15_method_182_code 64 [167, 255, 199, 28, 172] := chW_of (by decide +kernel)
theorem W_prog_15_method_182_code_32 : chW prog_15_method_182_code 32 [42, 180, 2, 106, 29, 46, 184, 2, 63, 42, 180, 2, 103, 28, 46, 42, 180, 2, 106, 28, 46, 184, 2, 63, 161, 0, 5, 29, 61, 132, 3, 1, 167, 255, 199, 28] := chW_of (by decide +kernel)
theorem d_15_182_61 : decode prog_15_method_182_code 61 = .ok (.iinc 3 1, 3) := D_132 W_prog_15_method_182_code_32 29 rfl rfl rfl
abbrev Q_M_track (D : va_G) (ca : Nat → ClassId) (ad : Nat → Int → Nat → Nat) (L : List Nat) (r : Int) (F : zF) (B : zB) (A : Nat → Prop) : Array Value → State → Outcome → State → Prop := va_Qi (S := Unit) (fun p _ => p = iI r) (fun _ => zPo D ca ad lnM nM L F B A) A
def f_M_track_29 (K : Nat) (s0 : Int) (F : zF) (B : zB) : zO := some (s0, F, B)
set_option maxHeartbeats 4000000 in
set_option maxRecDepth 100000 in
theorem b_M_track_29 {D : va_G} {ca : Nat → ClassId} {ad : Nat → Int → Nat → Nat} {L : List Nat} {aS vS : Nat → Nat} {A : Nat → Prop} {p : Program} {l : Launch} {e : Env} {s : State} {m : MethodId} {args : Array Value} {below : List Frame} {meth : Method} {c : Code} {K : Nat} {r : Int} {F9 : zF} {B9 : zB} (X : zX D ca L aS vS A p s m args meth c prog_15_method_149_code 2 (Option.some Jvm.ClassFile.FieldType.int) "StaveHouseModel") {s0 : Int} {F : zF} {B : zB} {H : Heap} {locs : List Loc} {ls : Array Slot} (hf : f_M_track_29 K s0 F B = some (r, F9, B9)) (hZ : zH D ca ad lnM nM L F B A H) (hS : va_S A s.heap H locs) (hl : lv_has ls 2 []) : W p l e ({ frames := 0, cells := 0, slots := 0, locals := 0 } : Room) s m args below meth c H locs 0 0 (MQ below (Q_M_track D ca ad L r F9 B9 A) args s 0 0 A) (F0 m 29 ls [.int (iI s0)]) := by
  obtain ⟨hx, hb, hr, hml, hown, hts, hlk, hK, hA, hL, hX⟩ := id X
  replace hf : (some (s0, F, B)) = some (r, F9, B9) := hf
  cases hf
  exact W.iret hx hb hr (fun t ht hW => ⟨⟨_, (), rfl, rfl, by rw [ht]; exact hZ, va_K.moved hW.alike hK⟩, hS.F ht⟩) hS.2.2 (D_172 W_prog_15_method_149_code_0 29 rfl rfl) hlk

def f_M_track_26 (K : Nat)  (F : zF) (B : zB) : zO := f_M_track_29 K (-2147483648) F B
set_option maxHeartbeats 4000000 in
set_option maxRecDepth 100000 in
theorem b_M_track_26 {D : va_G} {ca : Nat → ClassId} {ad : Nat → Int → Nat → Nat} {L : List Nat} {aS vS : Nat → Nat} {A : Nat → Prop} {p : Program} {l : Launch} {e : Env} {s : State} {m : MethodId} {args : Array Value} {below : List Frame} {meth : Method} {c : Code} {K : Nat} {r : Int} {F9 : zF} {B9 : zB} (X : zX D ca L aS vS A p s m args meth c prog_15_method_149_code 2 (Option.some Jvm.ClassFile.FieldType.int) "StaveHouseModel")  {F : zF} {B : zB} {H : Heap} {locs : List Loc} {ls : Array Slot} (hf : f_M_track_26 K  F B = some (r, F9, B9)) (hZ : zH D ca ad lnM nM L F B A H) (hS : va_S A s.heap H locs) (hl : lv_has ls 2 []) : W p l e ({ frames := 0, cells := 0, slots := 0, locals := 0 } : Room) s m args below meth c H locs 0 0 (MQ below (Q_M_track D ca ad L r F9 B9 A) args s 0 0 A) (F0 m 26 ls []) := by
  obtain ⟨hx, hb, hr, hml, hown, hts, hlk, hK, hA, hL, hX⟩ := id X
  replace hf : (f_M_track_29 K (-2147483648) F B) = some (r, F9, B9) := hf
  refine lv_ldcw hx hb hown (hts _ k_13_68) (D_19 W_prog_15_method_149_code_0 26 rfl rfl rfl) ?_
  refine W.eq (g2 := F0 m 29 ls [.int (iI (-2147483648))]) rfl ?_
  exact b_M_track_29 X hf hZ hS (lv_sub hl [] rfl)

def f_M_track (K : Nat) (l1 : Int) (F : zF) (B : zB) : zO := if r32 (F 14 0 72) then (if (F 14 0 72) = 0 then f_M_track_26 K F B else if r32 l1 then (if l1 < 0 then f_M_track_26 K F B else (if 8 ≤ l1 then f_M_track_26 K F B else if 0 ≤ l1 ∧ l1 < 8 then f_M_track_29 K (B 14 0 73 l1) F B else none)) else none) else none
set_option maxHeartbeats 4000000 in
set_option maxRecDepth 100000 in
theorem c_M_track {l : Launch} {D : va_G} {ca : Nat → ClassId} {ad : Nat → Int → Nat → Nat} {L : List Nat} {aS vS : Nat → Nat} {sz K : Nat}  {l1 : Int} {F F9 : zF} {B B9 : zB} {r : Int} (hf : f_M_track K l1 F B = some (r, F9, B9)) : Met l ({ cls := "StaveHouseModel", name := "track", desc := "(I)I" } : Jvm.MethodName) (Cond.code ({ cls := "StaveHouseModel", name := "track", desc := "(I)I" } : Jvm.MethodName) prog_15_method_149_code 2 (Option.some Jvm.ClassFile.FieldType.int) :: wAll) ({ frames := 0, cells := 0, slots := 0, locals := 0 } : Room) (va_Pc [.ref (ad 14 0 0), .int (iI l1)] (zPre D ca ad lnM nM L aS vS F B sz)) (Q_M_track D ca ad L r F9 B9 (zA L sz)) 0 0 (zA L sz) := by
  refine zMet (Qc := Q_M_track D ca ad L r F9 B9) (lv := [(0, .ref (ad 14 0 0)), (1, .int (iI l1))]) (by decide) (Nat.le_of_ble_eq_true rfl) rfl (fun A p e s m below meth c ls X hZ hS hl => ?_)
  obtain ⟨hx, hb, hr, hml, hown, hts, hlk, hK, hA, hL, hX⟩ := id X
  replace hf : (if r32 (F 14 0 72) then (if (F 14 0 72) = 0 then f_M_track_26 K F B else if r32 l1 then (if l1 < 0 then f_M_track_26 K F B else (if 8 ≤ l1 then f_M_track_26 K F B else if 0 ≤ l1 ∧ l1 < 8 then f_M_track_29 K (B 14 0 73 l1) F B else none)) else none) else none) = some (r, F9, B9) := hf
  refine lv_aload_n hx hb (D_42 W_prog_15_method_149_code_0 0 rfl rfl) rfl (lv_at hl 0 rfl) ?_
  refine zget (ci := 14) (C := RX14) (T := TX14) (v := .int (iI (F 14 0 72))) (k := 72) hx hb hts inW_14 hown hK hZ (by decide) (by decide) rfl (by decide) k_11_70 rfl (D_180 W_prog_15_method_149_code_0 1 rfl rfl rfl) ?_
  obtain ⟨g1, hf⟩ := gif hf
  refine z0eq (tgt := 26) hx hb g1 (D_153 W_prog_15_method_149_code_0 4 rfl rfl rfl) (by decide) (fun h2 => ?_) (fun h2 => ?_)
  · replace hf := gpos hf h2
    exact b_M_track_26 X hf hZ hS (lv_sub hl [] rfl)
  · replace hf := gneg hf h2
    refine lv_iload_n hx hb (D_27 W_prog_15_method_149_code_0 7 rfl rfl) rfl (lv_at hl 1 rfl) ?_
    obtain ⟨g3, hf⟩ := gif hf
    refine z0lt (tgt := 26) hx hb g3 (D_155 W_prog_15_method_149_code_0 8 rfl rfl rfl) (by decide) (fun h4 => ?_) (fun h4 => ?_)
    · replace hf := gpos hf h4
      exact b_M_track_26 X hf hZ hS (lv_sub hl [] rfl)
    · replace hf := gneg hf h4
      refine lv_iload_n hx hb (D_27 W_prog_15_method_149_code_0 11 rfl rfl) rfl (lv_at hl 1 rfl) ?_
      refine lv_bipush (v := iI 8) hx hb (D_16 W_prog_15_method_149_code_0 12 rfl rfl rfl) (by decide) ?_
      refine zge (tgt := 26) hx hb g3 (by decide) (D_162 W_prog_15_method_149_code_0 14 rfl rfl rfl) (by decide) (fun h5 => ?_) (fun h5 => ?_)
      · replace hf := gpos hf h5
        exact b_M_track_26 X hf hZ hS (lv_sub hl [] rfl)
      · replace hf := gneg hf h5
        refine lv_aload_n hx hb (D_42 W_prog_15_method_149_code_0 17 rfl rfl) rfl (lv_at hl 0 rfl) ?_
        refine zget (ci := 14) (C := RX14) (T := TX14) (v := .ref (ad 14 0 (73 + 1))) (k := 73) hx hb hts inW_14 hown hK hZ (by decide) (by decide) rfl (by decide) k_11_71 rfl (D_180 W_prog_15_method_149_code_0 18 rfl rfl rfl) ?_
        refine lv_iload_n hx hb (D_27 W_prog_15_method_149_code_0 21 rfl rfl) rfl (lv_at hl 1 rfl) ?_
        obtain ⟨g6, hf⟩ := gif hf
        refine zald (ci := 14) (k := 73) hx hb hK rfl hZ (by decide) (by decide) rfl (Nat.le_of_ble_eq_true rfl) g6.1 g6.2 (D_46 W_prog_15_method_149_code_0 22 rfl rfl) ?_
        refine lv_goto (tgt := 29) hx hb (D_167 W_prog_15_method_149_code_0 23 rfl rfl rfl) (by decide) ?_
        exact b_M_track_29 X hf hZ hS (lv_sub hl [] rfl)

abbrev Q_M_sound_0 (D : va_G) (ca : Nat → ClassId) (ad : Nat → Int → Nat → Nat) (L : List Nat) (r : Int) (F : zF) (B : zB) (A : Nat → Prop) : Array Value → State → Outcome → State → Prop := va_Ql (S := Unit) (fun p _ => p = lI r) (fun _ => zPo D ca ad lnM nM L F B A) A
def f_M_sound_0_106 (K : Nat) (s0 : Int) (F : zF) (B : zB) : zO := some (s0, F, B)
set_option maxHeartbeats 4000000 in
set_option maxRecDepth 100000 in
theorem b_M_sound_0_106 {D : va_G} {ca : Nat → ClassId} {ad : Nat → Int → Nat → Nat} {L : List Nat} {aS vS : Nat → Nat} {A : Nat → Prop} {p : Program} {l : Launch} {e : Env} {s : State} {m : MethodId} {args : Array Value} {below : List Frame} {meth : Method} {c : Code} {K : Nat} {r : Int} {F9 : zF} {B9 : zB} (X : zX D ca L aS vS A p s m args meth c prog_15_method_150_code 3 (Option.some Jvm.ClassFile.FieldType.long) "StaveHouseModel") {s0 : Int} {F : zF} {B : zB} {H : Heap} {locs : List Loc} {ls : Array Slot} (hf : f_M_sound_0_106 K s0 F B = some (r, F9, B9)) (hZ : zH D ca ad lnM nM L F B A H) (hS : va_S A s.heap H locs) (hl : lv_has ls 3 []) : W p l e ({ frames := 0, cells := 0, slots := 0, locals := 0 } : Room) s m args below meth c H locs 0 0 (MQ below (Q_M_sound_0 D ca ad L r F9 B9 A) args s 0 0 A) (F0 m 106 ls [.long (lI s0)]) := by
  obtain ⟨hx, hb, hr, hml, hown, hts, hlk, hK, hA, hL, hX⟩ := id X
  replace hf : (some (s0, F, B)) = some (r, F9, B9) := hf
  cases hf
  exact W.lret hx hb hr (fun t ht hW => ⟨⟨_, (), rfl, rfl, by rw [ht]; exact hZ, va_K.moved hW.alike hK⟩, hS.F ht⟩) hS.2.2 (D_173 W_prog_15_method_150_code_96 10 rfl rfl) hlk

def f_M_sound_0_22 (K : Nat)  (F : zF) (B : zB) : zO := some ((-1), F, B)
set_option maxHeartbeats 4000000 in
set_option maxRecDepth 100000 in
theorem b_M_sound_0_22 {D : va_G} {ca : Nat → ClassId} {ad : Nat → Int → Nat → Nat} {L : List Nat} {aS vS : Nat → Nat} {A : Nat → Prop} {p : Program} {l : Launch} {e : Env} {s : State} {m : MethodId} {args : Array Value} {below : List Frame} {meth : Method} {c : Code} {K : Nat} {r : Int} {F9 : zF} {B9 : zB} (X : zX D ca L aS vS A p s m args meth c prog_15_method_150_code 3 (Option.some Jvm.ClassFile.FieldType.long) "StaveHouseModel")  {F : zF} {B : zB} {H : Heap} {locs : List Loc} {ls : Array Slot} (hf : f_M_sound_0_22 K  F B = some (r, F9, B9)) (hZ : zH D ca ad lnM nM L F B A H) (hS : va_S A s.heap H locs) (hl : lv_has ls 3 []) : W p l e ({ frames := 0, cells := 0, slots := 0, locals := 0 } : Room) s m args below meth c H locs 0 0 (MQ below (Q_M_sound_0 D ca ad L r F9 B9 A) args s 0 0 A) (F0 m 22 ls []) := by
  obtain ⟨hx, hb, hr, hml, hown, hts, hlk, hK, hA, hL, hX⟩ := id X
  replace hf : (some ((-1), F, B)) = some (r, F9, B9) := hf
  refine lv_ldc2 hx hb hown (hts _ k_12_105) (D_20 W_prog_15_method_150_code_0 22 rfl rfl rfl) ?_
  refine W.eq (g2 := F0 m 25 ls [.long (lI (-1))]) rfl ?_
  cases hf
  exact W.lret hx hb hr (fun t ht hW => ⟨⟨_, (), rfl, rfl, by rw [ht]; exact hZ, va_K.moved hW.alike hK⟩, hS.F ht⟩) hS.2.2 (D_173 W_prog_15_method_150_code_0 25 rfl rfl) hlk

def f_M_sound_0 (K : Nat) (l1 : Int) (l2 : Int) (F : zF) (B : zB) : zO := if r32 (F 14 0 72) then (if (F 14 0 72) = 0 then f_M_sound_0_22 K F B else if r32 l1 then (if l1 < 0 then f_M_sound_0_22 K F B else if r32 (B 14 0 73 7) then (if l1 < (B 14 0 73 7) then if r32 l2 then (if l2 = 0 then if 0 ≤ l1 ∧ l1 < 400 then if r32 (B 14 0 75 l1) then some (B 14 0 75 l1, F, B) else none else none else (if l2 = 1 then if 0 ≤ l1 ∧ l1 < 400 then if r32 (B 14 0 76 l1) then some (B 14 0 76 l1, F, B) else none else none else (if l2 = 2 then if 0 ≤ l1 ∧ l1 < 400 then if r32 (B 14 0 77 l1) then some (B 14 0 77 l1, F, B) else none else none else (if l2 = 3 then if 0 ≤ l1 ∧ l1 < 400 then if r32 (B 14 0 78 l1) then some (B 14 0 78 l1, F, B) else none else none else (if l2 = 4 then if 0 ≤ l1 ∧ l1 < 400 then some (B 14 0 79 l1, F, B) else none else (if l2 = 5 then if 0 ≤ l1 ∧ l1 < 400 then f_M_sound_0_106 K (B 14 0 80 l1) F B else none else f_M_sound_0_106 K (-1) F B)))))) else none else f_M_sound_0_22 K F B) else none) else none) else none
set_option maxHeartbeats 4000000 in
set_option maxRecDepth 100000 in
theorem c_M_sound_0 {l : Launch} {D : va_G} {ca : Nat → ClassId} {ad : Nat → Int → Nat → Nat} {L : List Nat} {aS vS : Nat → Nat} {sz K : Nat}  {l1 : Int} {l2 : Int} {F F9 : zF} {B B9 : zB} {r : Int} (hf : f_M_sound_0 K l1 l2 F B = some (r, F9, B9)) : Met l ({ cls := "StaveHouseModel", name := "sound", desc := "(II)J" } : Jvm.MethodName) (Cond.code ({ cls := "StaveHouseModel", name := "sound", desc := "(II)J" } : Jvm.MethodName) prog_15_method_150_code 3 (Option.some Jvm.ClassFile.FieldType.long) :: wAll) ({ frames := 0, cells := 0, slots := 0, locals := 0 } : Room) (va_Pc [.ref (ad 14 0 0), .int (iI l1), .int (iI l2)] (zPre D ca ad lnM nM L aS vS F B sz)) (Q_M_sound_0 D ca ad L r F9 B9 (zA L sz)) 0 0 (zA L sz) := by
  refine zMet (Qc := Q_M_sound_0 D ca ad L r F9 B9) (lv := [(0, .ref (ad 14 0 0)), (1, .int (iI l1)), (2, .int (iI l2))]) (by decide) (Nat.le_of_ble_eq_true rfl) rfl (fun A p e s m below meth c ls X hZ hS hl => ?_)
  obtain ⟨hx, hb, hr, hml, hown, hts, hlk, hK, hA, hL, hX⟩ := id X
  replace hf : (if r32 (F 14 0 72) then (if (F 14 0 72) = 0 then f_M_sound_0_22 K F B else if r32 l1 then (if l1 < 0 then f_M_sound_0_22 K F B else if r32 (B 14 0 73 7) then (if l1 < (B 14 0 73 7) then if r32 l2 then (if l2 = 0 then if 0 ≤ l1 ∧ l1 < 400 then if r32 (B 14 0 75 l1) then some (B 14 0 75 l1, F, B) else none else none else (if l2 = 1 then if 0 ≤ l1 ∧ l1 < 400 then if r32 (B 14 0 76 l1) then some (B 14 0 76 l1, F, B) else none else none else (if l2 = 2 then if 0 ≤ l1 ∧ l1 < 400 then if r32 (B 14 0 77 l1) then some (B 14 0 77 l1, F, B) else none else none else (if l2 = 3 then if 0 ≤ l1 ∧ l1 < 400 then if r32 (B 14 0 78 l1) then some (B 14 0 78 l1, F, B) else none else none else (if l2 = 4 then if 0 ≤ l1 ∧ l1 < 400 then some (B 14 0 79 l1, F, B) else none else (if l2 = 5 then if 0 ≤ l1 ∧ l1 < 400 then f_M_sound_0_106 K (B 14 0 80 l1) F B else none else f_M_sound_0_106 K (-1) F B)))))) else none else f_M_sound_0_22 K F B) else none) else none) else none) = some (r, F9, B9) := hf
  refine lv_aload_n hx hb (D_42 W_prog_15_method_150_code_0 0 rfl rfl) rfl (lv_at hl 0 rfl) ?_
  refine zget (ci := 14) (C := RX14) (T := TX14) (v := .int (iI (F 14 0 72))) (k := 72) hx hb hts inW_14 hown hK hZ (by decide) (by decide) rfl (by decide) k_11_70 rfl (D_180 W_prog_15_method_150_code_0 1 rfl rfl rfl) ?_
  obtain ⟨g1, hf⟩ := gif hf
  refine z0eq (tgt := 22) hx hb g1 (D_153 W_prog_15_method_150_code_0 4 rfl rfl rfl) (by decide) (fun h2 => ?_) (fun h2 => ?_)
  · replace hf := gpos hf h2
    exact b_M_sound_0_22 X hf hZ hS (lv_sub hl [] rfl)
  · replace hf := gneg hf h2
    refine lv_iload_n hx hb (D_27 W_prog_15_method_150_code_0 7 rfl rfl) rfl (lv_at hl 1 rfl) ?_
    obtain ⟨g3, hf⟩ := gif hf
    refine z0lt (tgt := 22) hx hb g3 (D_155 W_prog_15_method_150_code_0 8 rfl rfl rfl) (by decide) (fun h4 => ?_) (fun h4 => ?_)
    · replace hf := gpos hf h4
      exact b_M_sound_0_22 X hf hZ hS (lv_sub hl [] rfl)
    · replace hf := gneg hf h4
      refine lv_iload_n hx hb (D_27 W_prog_15_method_150_code_0 11 rfl rfl) rfl (lv_at hl 1 rfl) ?_
      refine lv_aload_n hx hb (D_42 W_prog_15_method_150_code_0 12 rfl rfl) rfl (lv_at hl 0 rfl) ?_
      refine zget (ci := 14) (C := RX14) (T := TX14) (v := .ref (ad 14 0 (73 + 1))) (k := 73) hx hb hts inW_14 hown hK hZ (by decide) (by decide) rfl (by decide) k_11_71 rfl (D_180 W_prog_15_method_150_code_0 13 rfl rfl rfl) ?_
      refine lv_bipush (v := iI 7) hx hb (D_16 W_prog_15_method_150_code_0 16 rfl rfl rfl) (by decide) ?_
      refine zald (ci := 14) (k := 73) hx hb hK rfl hZ (by decide) (by decide) rfl (Nat.le_of_ble_eq_true rfl) (by decide) (by decide) (D_46 W_prog_15_method_150_code_0 18 rfl rfl) ?_
      obtain ⟨g5, hf⟩ := gif hf
      refine zlt (tgt := 26) hx hb g3 g5 (D_161 W_prog_15_method_150_code_0 19 rfl rfl rfl) (by decide) (fun h6 => ?_) (fun h6 => ?_)
      · replace hf := gpos hf h6
        refine lv_iload_n hx hb (D_28 W_prog_15_method_150_code_0 26 rfl rfl) rfl (lv_at hl 2 rfl) ?_
        obtain ⟨g7, hf⟩ := gif hf
        refine z0ne (tgt := 38) hx hb g7 (D_154 W_prog_15_method_150_code_0 27 rfl rfl rfl) (by decide) (fun h8 => ?_) (fun h8 => ?_)
        · replace hf := gneg hf h8
          refine lv_iload_n hx hb (D_28 W_prog_15_method_150_code_32 6 rfl rfl) rfl (lv_at hl 2 rfl) ?_
          refine lv_iconst (v := iI 1) hx hb (D_4 W_prog_15_method_150_code_32 7 rfl rfl) rfl ?_
          refine zne (tgt := 51) hx hb g7 (by decide) (D_160 W_prog_15_method_150_code_32 8 rfl rfl rfl) (by decide) (fun h9 => ?_) (fun h9 => ?_)
          · replace hf := gneg hf h9
            refine lv_iload_n hx hb (D_28 W_prog_15_method_150_code_32 19 rfl rfl) rfl (lv_at hl 2 rfl) ?_
            refine lv_iconst (v := iI 2) hx hb (D_5 W_prog_15_method_150_code_32 20 rfl rfl) rfl ?_
            refine zne (tgt := 64) hx hb g7 (by decide) (D_160 W_prog_15_method_150_code_32 21 rfl rfl rfl) (by decide) (fun h10 => ?_) (fun h10 => ?_)
            · replace hf := gneg hf h10
              refine lv_iload_n hx hb (D_28 W_prog_15_method_150_code_64 0 rfl rfl) rfl (lv_at hl 2 rfl) ?_
              refine lv_iconst (v := iI 3) hx hb (D_6 W_prog_15_method_150_code_64 1 rfl rfl) rfl ?_
              refine zne (tgt := 77) hx hb g7 (by decide) (D_160 W_prog_15_method_150_code_64 2 rfl rfl rfl) (by decide) (fun h11 => ?_) (fun h11 => ?_)
              · replace hf := gneg hf h11
                refine lv_iload_n hx hb (D_28 W_prog_15_method_150_code_64 13 rfl rfl) rfl (lv_at hl 2 rfl) ?_
                refine lv_iconst (v := iI 4) hx hb (D_7 W_prog_15_method_150_code_64 14 rfl rfl) rfl ?_
                refine zne (tgt := 89) hx hb g7 (by decide) (D_160 W_prog_15_method_150_code_64 15 rfl rfl rfl) (by decide) (fun h12 => ?_) (fun h12 => ?_)
                · replace hf := gneg hf h12
                  refine lv_iload_n hx hb (D_28 W_prog_15_method_150_code_64 25 rfl rfl) rfl (lv_at hl 2 rfl) ?_
                  refine lv_iconst (v := iI 5) hx hb (D_8 W_prog_15_method_150_code_64 26 rfl rfl) rfl ?_
                  refine zne (tgt := 103) hx hb g7 (by decide) (D_160 W_prog_15_method_150_code_64 27 rfl rfl rfl) (by decide) (fun h13 => ?_) (fun h13 => ?_)
                  · replace hf := gneg hf h13
                    refine lv_ldc2 hx hb hown (hts _ k_12_105) (D_20 W_prog_15_method_150_code_96 7 rfl rfl rfl) ?_
                    refine W.eq (g2 := F0 m 106 ls [.long (lI (-1))]) rfl ?_
                    exact b_M_sound_0_106 X hf hZ hS (lv_sub hl [] rfl)
                  · replace hf := gpos hf h13
                    refine lv_aload_n hx hb (D_42 W_prog_15_method_150_code_64 30 rfl rfl) rfl (lv_at hl 0 rfl) ?_
                    refine zget (ci := 14) (C := RX14) (T := TX14) (v := .ref (ad 14 0 (80 + 1))) (k := 80) hx hb hts inW_14 hown hK hZ (by decide) (by decide) rfl (by decide) k_11_78 rfl (D_180 W_prog_15_method_150_code_64 31 rfl rfl rfl) ?_
                    refine lv_iload_n hx hb (D_27 W_prog_15_method_150_code_96 2 rfl rfl) rfl (lv_at hl 1 rfl) ?_
                    obtain ⟨g14, hf⟩ := gif hf
                    refine zlald (ci := 14) (k := 80) hx hb hK rfl hZ (by decide) (by decide) rfl (Nat.le_of_ble_eq_true rfl) g14.1 g14.2 (D_47 W_prog_15_method_150_code_96 3 rfl rfl) ?_
                    refine lv_goto (tgt := 106) hx hb (D_167 W_prog_15_method_150_code_96 4 rfl rfl rfl) (by decide) ?_
                    exact b_M_sound_0_106 X hf hZ hS (lv_sub hl [] rfl)
                · replace hf := gpos hf h12
                  refine lv_aload_n hx hb (D_42 W_prog_15_method_150_code_64 18 rfl rfl) rfl (lv_at hl 0 rfl) ?_
                  refine zget (ci := 14) (C := RX14) (T := TX14) (v := .ref (ad 14 0 (79 + 1))) (k := 79) hx hb hts inW_14 hown hK hZ (by decide) (by decide) rfl (by decide) k_11_77 rfl (D_180 W_prog_15_method_150_code_64 19 rfl rfl rfl) ?_
                  refine lv_iload_n hx hb (D_27 W_prog_15_method_150_code_64 22 rfl rfl) rfl (lv_at hl 1 rfl) ?_
                  obtain ⟨g15, hf⟩ := gif hf
                  refine zlald (ci := 14) (k := 79) hx hb hK rfl hZ (by decide) (by decide) rfl (Nat.le_of_ble_eq_true rfl) g15.1 g15.2 (D_47 W_prog_15_method_150_code_64 23 rfl rfl) ?_
                  cases hf
                  exact W.lret hx hb hr (fun t ht hW => ⟨⟨_, (), rfl, rfl, by rw [ht]; exact hZ, va_K.moved hW.alike hK⟩, hS.F ht⟩) hS.2.2 (D_173 W_prog_15_method_150_code_64 24 rfl rfl) hlk
              · replace hf := gpos hf h11
                refine lv_aload_n hx hb (D_42 W_prog_15_method_150_code_64 5 rfl rfl) rfl (lv_at hl 0 rfl) ?_
                refine zget (ci := 14) (C := RX14) (T := TX14) (v := .ref (ad 14 0 (78 + 1))) (k := 78) hx hb hts inW_14 hown hK hZ (by decide) (by decide) rfl (by decide) k_11_76 rfl (D_180 W_prog_15_method_150_code_64 6 rfl rfl rfl) ?_
                refine lv_iload_n hx hb (D_27 W_prog_15_method_150_code_64 9 rfl rfl) rfl (lv_at hl 1 rfl) ?_
                obtain ⟨g16, hf⟩ := gif hf
                refine zald (ci := 14) (k := 78) hx hb hK rfl hZ (by decide) (by decide) rfl (Nat.le_of_ble_eq_true rfl) g16.1 g16.2 (D_46 W_prog_15_method_150_code_64 10 rfl rfl) ?_
                obtain ⟨g17, hf⟩ := gif hf
                refine zi2l hx hb g17 (D_133 W_prog_15_method_150_code_64 11 rfl rfl) ?_
                cases hf
                exact W.lret hx hb hr (fun t ht hW => ⟨⟨_, (), rfl, rfl, by rw [ht]; exact hZ, va_K.moved hW.alike hK⟩, hS.F ht⟩) hS.2.2 (D_173 W_prog_15_method_150_code_64 12 rfl rfl) hlk
            · replace hf := gpos hf h10
              refine lv_aload_n hx hb (D_42 W_prog_15_method_150_code_32 24 rfl rfl) rfl (lv_at hl 0 rfl) ?_
              refine zget (ci := 14) (C := RX14) (T := TX14) (v := .ref (ad 14 0 (77 + 1))) (k := 77) hx hb hts inW_14 hown hK hZ (by decide) (by decide) rfl (by decide) k_11_75 rfl (D_180 W_prog_15_method_150_code_32 25 rfl rfl rfl) ?_
              refine lv_iload_n hx hb (D_27 W_prog_15_method_150_code_32 28 rfl rfl) rfl (lv_at hl 1 rfl) ?_
              obtain ⟨g18, hf⟩ := gif hf
              refine zald (ci := 14) (k := 77) hx hb hK rfl hZ (by decide) (by decide) rfl (Nat.le_of_ble_eq_true rfl) g18.1 g18.2 (D_46 W_prog_15_method_150_code_32 29 rfl rfl) ?_
              obtain ⟨g19, hf⟩ := gif hf
              refine zi2l hx hb g19 (D_133 W_prog_15_method_150_code_32 30 rfl rfl) ?_
              cases hf
              exact W.lret hx hb hr (fun t ht hW => ⟨⟨_, (), rfl, rfl, by rw [ht]; exact hZ, va_K.moved hW.alike hK⟩, hS.F ht⟩) hS.2.2 (D_173 W_prog_15_method_150_code_32 31 rfl rfl) hlk
          · replace hf := gpos hf h9
            refine lv_aload_n hx hb (D_42 W_prog_15_method_150_code_32 11 rfl rfl) rfl (lv_at hl 0 rfl) ?_
            refine zget (ci := 14) (C := RX14) (T := TX14) (v := .ref (ad 14 0 (76 + 1))) (k := 76) hx hb hts inW_14 hown hK hZ (by decide) (by decide) rfl (by decide) k_11_74 rfl (D_180 W_prog_15_method_150_code_32 12 rfl rfl rfl) ?_
            refine lv_iload_n hx hb (D_27 W_prog_15_method_150_code_32 15 rfl rfl) rfl (lv_at hl 1 rfl) ?_
            obtain ⟨g20, hf⟩ := gif hf
            refine zald (ci := 14) (k := 76) hx hb hK rfl hZ (by decide) (by decide) rfl (Nat.le_of_ble_eq_true rfl) g20.1 g20.2 (D_46 W_prog_15_method_150_code_32 16 rfl rfl) ?_
            obtain ⟨g21, hf⟩ := gif hf
            refine zi2l hx hb g21 (D_133 W_prog_15_method_150_code_32 17 rfl rfl) ?_
            cases hf
            exact W.lret hx hb hr (fun t ht hW => ⟨⟨_, (), rfl, rfl, by rw [ht]; exact hZ, va_K.moved hW.alike hK⟩, hS.F ht⟩) hS.2.2 (D_173 W_prog_15_method_150_code_32 18 rfl rfl) hlk
        · replace hf := gpos hf h8
          refine lv_aload_n hx hb (D_42 W_prog_15_method_150_code_0 30 rfl rfl) rfl (lv_at hl 0 rfl) ?_
          refine zget (ci := 14) (C := RX14) (T := TX14) (v := .ref (ad 14 0 (75 + 1))) (k := 75) hx hb hts inW_14 hown hK hZ (by decide) (by decide) rfl (by decide) k_11_73 rfl (D_180 W_prog_15_method_150_code_0 31 rfl rfl rfl) ?_
          refine lv_iload_n hx hb (D_27 W_prog_15_method_150_code_32 2 rfl rfl) rfl (lv_at hl 1 rfl) ?_
          obtain ⟨g22, hf⟩ := gif hf
          refine zald (ci := 14) (k := 75) hx hb hK rfl hZ (by decide) (by decide) rfl (Nat.le_of_ble_eq_true rfl) g22.1 g22.2 (D_46 W_prog_15_method_150_code_32 3 rfl rfl) ?_
          obtain ⟨g23, hf⟩ := gif hf
          refine zi2l hx hb g23 (D_133 W_prog_15_method_150_code_32 4 rfl rfl) ?_
          cases hf
          exact W.lret hx hb hr (fun t ht hW => ⟨⟨_, (), rfl, rfl, by rw [ht]; exact hZ, va_K.moved hW.alike hK⟩, hS.F ht⟩) hS.2.2 (D_173 W_prog_15_method_150_code_32 5 rfl rfl) hlk
      · replace hf := gneg hf h6
        exact b_M_sound_0_22 X hf hZ hS (lv_sub hl [] rfl)

abbrev Q_M_hasSounds (D : va_G) (ca : Nat → ClassId) (ad : Nat → Int → Nat → Nat) (L : List Nat) (r : Int) (F : zF) (B : zB) (A : Nat → Prop) : Array Value → State → Outcome → State → Prop := va_Qi (S := Unit) (fun p _ => p = iI r) (fun _ => zPo D ca ad lnM nM L F B A) A
def f_M_hasSounds_34 (rec4 : Int → Int → Int → zF → zB → zO) (K : Nat) (l3 : Int) (l1 : Int) (s0 : Int) (F : zF) (B : zB) : zO := rec4 (l3 + 1) s0 l1 F B
set_option maxHeartbeats 4000000 in
set_option maxRecDepth 100000 in
theorem b_M_hasSounds_34 {D : va_G} {ca : Nat → ClassId} {ad : Nat → Int → Nat → Nat} {L : List Nat} {aS vS : Nat → Nat} {A : Nat → Prop} {p : Program} {l : Launch} {e : Env} {s : State} {m : MethodId} {args : Array Value} {below : List Frame} {meth : Method} {c : Code} {K : Nat} {r : Int} {F9 : zF} {B9 : zB} (X : zX D ca L aS vS A p s m args meth c prog_15_method_152_code 4 (Option.some Jvm.ClassFile.FieldType.boolean) "StaveHouseModel") {rec4 : Int → Int → Int → zF → zB → zO} (hrec4 : ∀ {l3 : Int} {l2 : Int} {l1 : Int} {F : zF} {B : zB} {H : Heap} {locs : List Loc} {ls : Array Slot}, rec4 l3 l2 l1 F B = some (r, F9, B9) → zH D ca ad lnM nM L F B A H → va_S A s.heap H locs → lv_has ls 4 [(3, .int (iI l3)), (2, .int (iI l2)), (0, .ref (ad 14 0 0)), (1, .int (iI l1))] → W p l e ({ frames := 0, cells := 0, slots := 0, locals := 0 } : Room) s m args below meth c H locs 0 0 (MQ below (Q_M_hasSounds D ca ad L r F9 B9 A) args s 0 0 A) (F0 m 4 ls [])) {l3 : Int} {l1 : Int} {s0 : Int} {F : zF} {B : zB} {H : Heap} {locs : List Loc} {ls : Array Slot} (hf : f_M_hasSounds_34 rec4 K l3 l1 s0 F B = some (r, F9, B9)) (hZ : zH D ca ad lnM nM L F B A H) (hS : va_S A s.heap H locs) (hl : lv_has ls 4 [(3, .int (iI l3)), (0, .ref (ad 14 0 0)), (1, .int (iI l1))]) : W p l e ({ frames := 0, cells := 0, slots := 0, locals := 0 } : Room) s m args below meth c H locs 0 0 (MQ below (Q_M_hasSounds D ca ad L r F9 B9 A) args s 0 0 A) (F0 m 34 ls [.int (iI s0)]) := by
  obtain ⟨hx, hb, hr, hml, hown, hts, hlk, hK, hA, hL, hX⟩ := id X
  replace hf : (rec4 (l3 + 1) s0 l1 F B) = some (r, F9, B9) := hf
  refine lv_istore_n (lv' := [(2, .int (iI s0)), (3, .int (iI l3)), (0, .ref (ad 14 0 0)), (1, .int (iI l1))]) hx hb (D_61 W_prog_15_method_152_code_32 2 rfl rfl) rfl hl (by decide) rfl (fun ls hl => ?_)
  refine lv_iinc (v := iI (l3 + 1)) (lv' := [(3, .int (iI (l3 + 1))), (2, .int (iI s0)), (0, .ref (ad 14 0 0)), (1, .int (iI l1))]) hx hb d_15_152_35 hl (k := 1) rfl (iI_add _ 1) (by decide) rfl (fun ls hl => ?_)
  refine lv_goto (tgt := 4) hx hb (D_167 W_prog_15_method_152_code_32 6 rfl rfl rfl) (by decide) ?_
  exact hrec4 hf hZ hS (lv_sub hl [0, 1, 2, 3] rfl)

def f_M_hasSounds_29 (rec4 : Int → Int → Int → zF → zB → zO) (K : Nat) (l3 : Int) (l1 : Int) (F : zF) (B : zB) : zO := f_M_hasSounds_34 rec4 K l3 l1 1 F B
set_option maxHeartbeats 4000000 in
set_option maxRecDepth 100000 in
theorem b_M_hasSounds_29 {D : va_G} {ca : Nat → ClassId} {ad : Nat → Int → Nat → Nat} {L : List Nat} {aS vS : Nat → Nat} {A : Nat → Prop} {p : Program} {l : Launch} {e : Env} {s : State} {m : MethodId} {args : Array Value} {below : List Frame} {meth : Method} {c : Code} {K : Nat} {r : Int} {F9 : zF} {B9 : zB} (X : zX D ca L aS vS A p s m args meth c prog_15_method_152_code 4 (Option.some Jvm.ClassFile.FieldType.boolean) "StaveHouseModel") {rec4 : Int → Int → Int → zF → zB → zO} (hrec4 : ∀ {l3 : Int} {l2 : Int} {l1 : Int} {F : zF} {B : zB} {H : Heap} {locs : List Loc} {ls : Array Slot}, rec4 l3 l2 l1 F B = some (r, F9, B9) → zH D ca ad lnM nM L F B A H → va_S A s.heap H locs → lv_has ls 4 [(3, .int (iI l3)), (2, .int (iI l2)), (0, .ref (ad 14 0 0)), (1, .int (iI l1))] → W p l e ({ frames := 0, cells := 0, slots := 0, locals := 0 } : Room) s m args below meth c H locs 0 0 (MQ below (Q_M_hasSounds D ca ad L r F9 B9 A) args s 0 0 A) (F0 m 4 ls [])) {l3 : Int} {l1 : Int} {F : zF} {B : zB} {H : Heap} {locs : List Loc} {ls : Array Slot} (hf : f_M_hasSounds_29 rec4 K l3 l1 F B = some (r, F9, B9)) (hZ : zH D ca ad lnM nM L F B A H) (hS : va_S A s.heap H locs) (hl : lv_has ls 4 [(3, .int (iI l3)), (0, .ref (ad 14 0 0)), (1, .int (iI l1))]) : W p l e ({ frames := 0, cells := 0, slots := 0, locals := 0 } : Room) s m args below meth c H locs 0 0 (MQ below (Q_M_hasSounds D ca ad L r F9 B9 A) args s 0 0 A) (F0 m 29 ls []) := by
  obtain ⟨hx, hb, hr, hml, hown, hts, hlk, hK, hA, hL, hX⟩ := id X
  replace hf : (f_M_hasSounds_34 rec4 K l3 l1 1 F B) = some (r, F9, B9) := hf
  refine lv_iconst (v := iI 1) hx hb (D_4 W_prog_15_method_152_code_0 29 rfl rfl) rfl ?_
  refine lv_goto (tgt := 34) hx hb (D_167 W_prog_15_method_152_code_0 30 rfl rfl rfl) (by decide) ?_
  exact b_M_hasSounds_34 X hrec4 hf hZ hS (lv_sub hl [0, 1, 2] rfl)

def f_M_hasSounds_4 (K : Nat) : Nat → Int → Int → Int → zF → zB → zO
  | 0, _, _, _, _, _ => none
  | n + 1, l3, l2, l1, F, B => if r32 l3 then if r32 (B 14 0 73 7) then (if (B 14 0 73 7) ≤ l3 then if (l2 = 0 ∨ l2 = 1) then some (l2, F, B) else none else if r32 l2 then (if l2 = 0 then if 0 ≤ l3 ∧ l3 < 400 then if r32 (B 14 0 75 l3) then if r32 l1 then (if (B 14 0 75 l3) = l1 then f_M_hasSounds_29 (f_M_hasSounds_4 K n) K l3 l1 F B else f_M_hasSounds_34 (f_M_hasSounds_4 K n) K l3 l1 0 F B) else none else none else none else f_M_hasSounds_29 (f_M_hasSounds_4 K n) K l3 l1 F B) else none) else none else none
set_option maxHeartbeats 4000000 in
set_option maxRecDepth 100000 in
theorem b_M_hasSounds_4 {D : va_G} {ca : Nat → ClassId} {ad : Nat → Int → Nat → Nat} {L : List Nat} {aS vS : Nat → Nat} {A : Nat → Prop} {p : Program} {l : Launch} {e : Env} {s : State} {m : MethodId} {args : Array Value} {below : List Frame} {meth : Method} {c : Code} {K : Nat} {r : Int} {F9 : zF} {B9 : zB} (X : zX D ca L aS vS A p s m args meth c prog_15_method_152_code 4 (Option.some Jvm.ClassFile.FieldType.boolean) "StaveHouseModel") : ∀ {n : Nat} {l3 : Int} {l2 : Int} {l1 : Int} {F : zF} {B : zB} {H : Heap} {locs : List Loc} {ls : Array Slot}, f_M_hasSounds_4 K n l3 l2 l1 F B = some (r, F9, B9) → zH D ca ad lnM nM L F B A H → va_S A s.heap H locs → lv_has ls 4 [(3, .int (iI l3)), (2, .int (iI l2)), (0, .ref (ad 14 0 0)), (1, .int (iI l1))] → W p l e ({ frames := 0, cells := 0, slots := 0, locals := 0 } : Room) s m args below meth c H locs 0 0 (MQ below (Q_M_hasSounds D ca ad L r F9 B9 A) args s 0 0 A) (F0 m 4 ls []) := by
  obtain ⟨hx, hb, hr, hml, hown, hts, hlk, hK, hA, hL, hX⟩ := id X
  intro n
  induction n with
  | zero =>
    intros
    rename_i hf _ _ _
    cases hf
  | succ n ih =>
    intro l3 l2 l1 F B H locs ls hf hZ hS hl
    replace hf : (if r32 l3 then if r32 (B 14 0 73 7) then (if (B 14 0 73 7) ≤ l3 then if (l2 = 0 ∨ l2 = 1) then some (l2, F, B) else none else if r32 l2 then (if l2 = 0 then if 0 ≤ l3 ∧ l3 < 400 then if r32 (B 14 0 75 l3) then if r32 l1 then (if (B 14 0 75 l3) = l1 then f_M_hasSounds_29 (f_M_hasSounds_4 K n) K l3 l1 F B else f_M_hasSounds_34 (f_M_hasSounds_4 K n) K l3 l1 0 F B) else none else none else none else f_M_hasSounds_29 (f_M_hasSounds_4 K n) K l3 l1 F B) else none) else none else none) = some (r, F9, B9) := hf
    refine lv_iload_n hx hb (D_29 W_prog_15_method_152_code_0 4 rfl rfl) rfl (lv_at hl 0 rfl) ?_
    refine lv_aload_n hx hb (D_42 W_prog_15_method_152_code_0 5 rfl rfl) rfl (lv_at hl 2 rfl) ?_
    refine zget (ci := 14) (C := RX14) (T := TX14) (v := .ref (ad 14 0 (73 + 1))) (k := 73) hx hb hts inW_14 hown hK hZ (by decide) (by decide) rfl (by decide) k_11_71 rfl (D_180 W_prog_15_method_152_code_0 6 rfl rfl rfl) ?_
    refine lv_bipush (v := iI 7) hx hb (D_16 W_prog_15_method_152_code_0 9 rfl rfl rfl) (by decide) ?_
    refine zald (ci := 14) (k := 73) hx hb hK rfl hZ (by decide) (by decide) rfl (Nat.le_of_ble_eq_true rfl) (by decide) (by decide) (D_46 W_prog_15_method_152_code_0 11 rfl rfl) ?_
    obtain ⟨g1, hf⟩ := gif hf
    obtain ⟨g2, hf⟩ := gif hf
    refine zge (tgt := 41) hx hb g1 g2 (D_162 W_prog_15_method_152_code_0 12 rfl rfl rfl) (by decide) (fun h3 => ?_) (fun h3 => ?_)
    · replace hf := gpos hf h3
      refine lv_iload_n hx hb (D_28 W_prog_15_method_152_code_32 9 rfl rfl) rfl (lv_at hl 1 rfl) ?_
      obtain ⟨g4, hf⟩ := gif hf
      cases hf
      exact W.zret hx hb hr (zbool g4) (fun t ht hW => ⟨⟨_, (), rfl, rfl, by rw [ht]; exact hZ, va_K.moved hW.alike hK⟩, hS.F ht⟩) hS.2.2 (D_172 W_prog_15_method_152_code_32 10 rfl rfl) hlk
    · replace hf := gneg hf h3
      refine lv_iload_n hx hb (D_28 W_prog_15_method_152_code_0 15 rfl rfl) rfl (lv_at hl 1 rfl) ?_
      obtain ⟨g5, hf⟩ := gif hf
      refine z0ne (tgt := 29) hx hb g5 (D_154 W_prog_15_method_152_code_0 16 rfl rfl rfl) (by decide) (fun h6 => ?_) (fun h6 => ?_)
      · replace hf := gneg hf h6
        exact b_M_hasSounds_29 X ih hf hZ hS (lv_sub hl [0, 2, 3] rfl)
      · replace hf := gpos hf h6
        refine lv_aload_n hx hb (D_42 W_prog_15_method_152_code_0 19 rfl rfl) rfl (lv_at hl 2 rfl) ?_
        refine zget (ci := 14) (C := RX14) (T := TX14) (v := .ref (ad 14 0 (75 + 1))) (k := 75) hx hb hts inW_14 hown hK hZ (by decide) (by decide) rfl (by decide) k_11_73 rfl (D_180 W_prog_15_method_152_code_0 20 rfl rfl rfl) ?_
        refine lv_iload_n hx hb (D_29 W_prog_15_method_152_code_0 23 rfl rfl) rfl (lv_at hl 0 rfl) ?_
        obtain ⟨g7, hf⟩ := gif hf
        refine zald (ci := 14) (k := 75) hx hb hK rfl hZ (by decide) (by decide) rfl (Nat.le_of_ble_eq_true rfl) g7.1 g7.2 (D_46 W_prog_15_method_152_code_0 24 rfl rfl) ?_
        refine lv_iload_n hx hb (D_27 W_prog_15_method_152_code_0 25 rfl rfl) rfl (lv_at hl 3 rfl) ?_
        obtain ⟨g8, hf⟩ := gif hf
        obtain ⟨g9, hf⟩ := gif hf
        refine zne (tgt := 33) hx hb g8 g9 (D_160 W_prog_15_method_152_code_0 26 rfl rfl rfl) (by decide) (fun h10 => ?_) (fun h10 => ?_)
        · replace hf := gneg hf h10
          refine lv_iconst (v := iI 0) hx hb (D_3 W_prog_15_method_152_code_32 1 rfl rfl) rfl ?_
          exact b_M_hasSounds_34 X ih hf hZ hS (lv_sub hl [0, 2, 3] rfl)
        · replace hf := gpos hf h10
          exact b_M_hasSounds_29 X ih hf hZ hS (lv_sub hl [0, 2, 3] rfl)

def f_M_hasSounds (K : Nat) (l1 : Int) (F : zF) (B : zB) : zO := f_M_hasSounds_4 K K 0 0 l1 F B
set_option maxHeartbeats 4000000 in
set_option maxRecDepth 100000 in
theorem c_M_hasSounds {l : Launch} {D : va_G} {ca : Nat → ClassId} {ad : Nat → Int → Nat → Nat} {L : List Nat} {aS vS : Nat → Nat} {sz K : Nat}  {l1 : Int} {F F9 : zF} {B B9 : zB} {r : Int} (hf : f_M_hasSounds K l1 F B = some (r, F9, B9)) : Met l ({ cls := "StaveHouseModel", name := "hasSounds", desc := "(I)Z" } : Jvm.MethodName) (Cond.code ({ cls := "StaveHouseModel", name := "hasSounds", desc := "(I)Z" } : Jvm.MethodName) prog_15_method_152_code 4 (Option.some Jvm.ClassFile.FieldType.boolean) :: wAll) ({ frames := 0, cells := 0, slots := 0, locals := 0 } : Room) (va_Pc [.ref (ad 14 0 0), .int (iI l1)] (zPre D ca ad lnM nM L aS vS F B sz)) (Q_M_hasSounds D ca ad L r F9 B9 (zA L sz)) 0 0 (zA L sz) := by
  refine zMet (Qc := Q_M_hasSounds D ca ad L r F9 B9) (lv := [(0, .ref (ad 14 0 0)), (1, .int (iI l1))]) (by decide) (Nat.le_of_ble_eq_true rfl) rfl (fun A p e s m below meth c ls X hZ hS hl => ?_)
  obtain ⟨hx, hb, hr, hml, hown, hts, hlk, hK, hA, hL, hX⟩ := id X
  replace hf : (f_M_hasSounds_4 K K 0 0 l1 F B) = some (r, F9, B9) := hf
  refine lv_iconst (v := iI 0) hx hb (D_3 W_prog_15_method_152_code_0 0 rfl rfl) rfl ?_
  refine lv_istore_n (lv' := [(2, .int (iI 0)), (0, .ref (ad 14 0 0)), (1, .int (iI l1))]) hx hb (D_61 W_prog_15_method_152_code_0 1 rfl rfl) rfl hl (by decide) rfl (fun ls hl => ?_)
  refine lv_iconst (v := iI 0) hx hb (D_3 W_prog_15_method_152_code_0 2 rfl rfl) rfl ?_
  refine lv_istore_n (lv' := [(3, .int (iI 0)), (2, .int (iI 0)), (0, .ref (ad 14 0 0)), (1, .int (iI l1))]) hx hb (D_62 W_prog_15_method_152_code_0 3 rfl rfl) rfl hl (by decide) rfl (fun ls hl => ?_)
  exact b_M_hasSounds_4 X hf hZ hS (lv_sub hl [0, 1, 2, 3] rfl)

abbrev Q_M_gridPlace (D : va_G) (ca : Nat → ClassId) (ad : Nat → Int → Nat → Nat) (L : List Nat) (r : Int) (F : zF) (B : zB) (A : Nat → Prop) : Array Value → State → Outcome → State → Prop := va_Ql (S := Unit) (fun p _ => p = lI r) (fun _ => zPo D ca ad lnM nM L F B A) A
def f_M_gridPlace (K : Nat) (l1 : Int) (l3 : Int) (F : zF) (B : zB) : zO := if r32 l3 then if r32 (B 14 0 73 1) then if ¬ lI (8 * (B 14 0 73 1)) = 0 then some (zldv (((2 * l1) * l3) + (4 * (B 14 0 73 1))) (8 * (B 14 0 73 1)), F, B) else none else none else none
set_option maxHeartbeats 4000000 in
set_option maxRecDepth 100000 in
theorem c_M_gridPlace {l : Launch} {D : va_G} {ca : Nat → ClassId} {ad : Nat → Int → Nat → Nat} {L : List Nat} {aS vS : Nat → Nat} {sz K : Nat}  {l1 : Int} {l3 : Int} {F F9 : zF} {B B9 : zB} {r : Int} (hf : f_M_gridPlace K l1 l3 F B = some (r, F9, B9)) : Met l ({ cls := "StaveHouseModel", name := "gridPlace", desc := "(JI)J" } : Jvm.MethodName) (Cond.code ({ cls := "StaveHouseModel", name := "gridPlace", desc := "(JI)J" } : Jvm.MethodName) prog_15_method_151_code 4 (Option.some Jvm.ClassFile.FieldType.long) :: wAll) ({ frames := 0, cells := 0, slots := 0, locals := 0 } : Room) (va_Pc [.ref (ad 14 0 0), .long (lI l1), .int (iI l3)] (zPre D ca ad lnM nM L aS vS F B sz)) (Q_M_gridPlace D ca ad L r F9 B9 (zA L sz)) 0 0 (zA L sz) := by
  refine zMet (Qc := Q_M_gridPlace D ca ad L r F9 B9) (lv := [(0, .ref (ad 14 0 0)), (1, .long (lI l1)), (3, .int (iI l3))]) (by decide) (Nat.le_of_ble_eq_true rfl) rfl (fun A p e s m below meth c ls X hZ hS hl => ?_)
  obtain ⟨hx, hb, hr, hml, hown, hts, hlk, hK, hA, hL, hX⟩ := id X
  replace hf : (if r32 l3 then if r32 (B 14 0 73 1) then if ¬ lI (8 * (B 14 0 73 1)) = 0 then some (zldv (((2 * l1) * l3) + (4 * (B 14 0 73 1))) (8 * (B 14 0 73 1)), F, B) else none else none else none) = some (r, F9, B9) := hf
  refine lv_ldc2 hx hb hown (hts _ k_13_89) (D_20 W_prog_15_method_151_code_0 0 rfl rfl rfl) ?_
  refine W.eq (g2 := F0 m 3 ls [.long (lI 2)]) rfl ?_
  refine lv_lload_n hx hb (D_31 W_prog_15_method_151_code_0 3 rfl rfl) rfl (lv_at hl 1 rfl) ?_
  refine zlmul hx hb (D_105 W_prog_15_method_151_code_0 4 rfl rfl) ?_
  refine lv_iload_n hx hb (D_29 W_prog_15_method_151_code_0 5 rfl rfl) rfl (lv_at hl 2 rfl) ?_
  obtain ⟨g1, hf⟩ := gif hf
  refine zi2l hx hb g1 (D_133 W_prog_15_method_151_code_0 6 rfl rfl) ?_
  refine zlmul hx hb (D_105 W_prog_15_method_151_code_0 7 rfl rfl) ?_
  refine lv_ldc2 hx hb hown (hts _ k_12_106) (D_20 W_prog_15_method_151_code_0 8 rfl rfl rfl) ?_
  refine W.eq (g2 := F0 m 11 ls [.long (lI 4), .long (lI ((2 * l1) * l3))]) rfl ?_
  refine lv_aload_n hx hb (D_42 W_prog_15_method_151_code_0 11 rfl rfl) rfl (lv_at hl 0 rfl) ?_
  refine zget (ci := 14) (C := RX14) (T := TX14) (v := .ref (ad 14 0 (73 + 1))) (k := 73) hx hb hts inW_14 hown hK hZ (by decide) (by decide) rfl (by decide) k_11_71 rfl (D_180 W_prog_15_method_151_code_0 12 rfl rfl rfl) ?_
  refine lv_iconst (v := iI 1) hx hb (D_4 W_prog_15_method_151_code_0 15 rfl rfl) rfl ?_
  refine zald (ci := 14) (k := 73) hx hb hK rfl hZ (by decide) (by decide) rfl (Nat.le_of_ble_eq_true rfl) (by decide) (by decide) (D_46 W_prog_15_method_151_code_0 16 rfl rfl) ?_
  obtain ⟨g2, hf⟩ := gif hf
  refine zi2l hx hb g2 (D_133 W_prog_15_method_151_code_0 17 rfl rfl) ?_
  refine zlmul hx hb (D_105 W_prog_15_method_151_code_0 18 rfl rfl) ?_
  refine zladd hx hb (D_97 W_prog_15_method_151_code_0 19 rfl rfl) ?_
  refine lv_ldc2 hx hb hown (hts _ k_13_90) (D_20 W_prog_15_method_151_code_0 20 rfl rfl rfl) ?_
  refine W.eq (g2 := F0 m 23 ls [.long (lI 8), .long (lI (((2 * l1) * l3) + (4 * (B 14 0 73 1))))]) rfl ?_
  refine lv_aload_n hx hb (D_42 W_prog_15_method_151_code_0 23 rfl rfl) rfl (lv_at hl 0 rfl) ?_
  refine zget (ci := 14) (C := RX14) (T := TX14) (v := .ref (ad 14 0 (73 + 1))) (k := 73) hx hb hts inW_14 hown hK hZ (by decide) (by decide) rfl (by decide) k_11_71 rfl (D_180 W_prog_15_method_151_code_0 24 rfl rfl rfl) ?_
  refine lv_iconst (v := iI 1) hx hb (D_4 W_prog_15_method_151_code_0 27 rfl rfl) rfl ?_
  refine zald (ci := 14) (k := 73) hx hb hK rfl hZ (by decide) (by decide) rfl (Nat.le_of_ble_eq_true rfl) (by decide) (by decide) (D_46 W_prog_15_method_151_code_0 28 rfl rfl) ?_
  refine zi2l hx hb g2 (D_133 W_prog_15_method_151_code_0 29 rfl rfl) ?_
  refine zlmul hx hb (D_105 W_prog_15_method_151_code_0 30 rfl rfl) ?_
  obtain ⟨g3, hf⟩ := gif hf
  refine zldv_r hx hb g3 (D_109 W_prog_15_method_151_code_0 31 rfl rfl) ?_
  cases hf
  exact W.lret hx hb hr (fun t ht hW => ⟨⟨_, (), rfl, rfl, by rw [ht]; exact hZ, va_K.moved hW.alike hK⟩, hS.F ht⟩) hS.2.2 (D_173 W_prog_15_method_151_code_32 0 rfl rfl) hlk

abbrev Q_M_six (D : va_G) (ca : Nat → ClassId) (ad : Nat → Int → Nat → Nat) (L : List Nat) (r : Int) (F : zF) (B : zB) (A : Nat → Prop) : Array Value → State → Outcome → State → Prop := va_Qi (S := Unit) (fun p _ => p = iI r) (fun _ => zPo D ca ad lnM nM L F B A) A
def f_M_six_58 (rec5 : Int → Int → Int → Int → zF → zB → zO) (rec19 : Int → Int → Int → Int → Int → Int → zF → zB → zO) (K : Nat) (l6 : Int) (l5 : Int) (l4 : Int) (l3 : Int) (l1 : Int) (l2 : Int) (F : zF) (B : zB) : zO := rec19 (l6 + 1) l5 l4 l3 l1 l2 F B
set_option maxHeartbeats 4000000 in
set_option maxRecDepth 100000 in
theorem b_M_six_58 {D : va_G} {ca : Nat → ClassId} {ad : Nat → Int → Nat → Nat} {L : List Nat} {aS vS : Nat → Nat} {A : Nat → Prop} {p : Program} {l : Launch} {e : Env} {s : State} {m : MethodId} {args : Array Value} {below : List Frame} {meth : Method} {c : Code} {K : Nat} {r : Int} {F9 : zF} {B9 : zB} (X : zX D ca L aS vS A p s m args meth c prog_15_method_155_code 7 (Option.some Jvm.ClassFile.FieldType.int) "StaveHouseModel") {rec5 : Int → Int → Int → Int → zF → zB → zO} {rec19 : Int → Int → Int → Int → Int → Int → zF → zB → zO} (hrec5 : ∀ {l4 : Int} {l3 : Int} {l1 : Int} {l2 : Int} {F : zF} {B : zB} {H : Heap} {locs : List Loc} {ls : Array Slot}, rec5 l4 l3 l1 l2 F B = some (r, F9, B9) → zH D ca ad lnM nM L F B A H → va_S A s.heap H locs → lv_has ls 7 [(4, .int (iI l4)), (3, .int (iI l3)), (0, .ref (ad 14 0 0)), (1, .int (iI l1)), (2, .int (iI l2))] → W p l e ({ frames := 0, cells := 0, slots := 0, locals := 0 } : Room) s m args below meth c H locs 0 0 (MQ below (Q_M_six D ca ad L r F9 B9 A) args s 0 0 A) (F0 m 5 ls [])) (hrec19 : ∀ {l6 : Int} {l5 : Int} {l4 : Int} {l3 : Int} {l1 : Int} {l2 : Int} {F : zF} {B : zB} {H : Heap} {locs : List Loc} {ls : Array Slot}, rec19 l6 l5 l4 l3 l1 l2 F B = some (r, F9, B9) → zH D ca ad lnM nM L F B A H → va_S A s.heap H locs → lv_has ls 7 [(6, .int (iI l6)), (5, .int (iI l5)), (4, .int (iI l4)), (3, .int (iI l3)), (0, .ref (ad 14 0 0)), (1, .int (iI l1)), (2, .int (iI l2))] → W p l e ({ frames := 0, cells := 0, slots := 0, locals := 0 } : Room) s m args below meth c H locs 0 0 (MQ below (Q_M_six D ca ad L r F9 B9 A) args s 0 0 A) (F0 m 19 ls [])) {l6 : Int} {l5 : Int} {l4 : Int} {l3 : Int} {l1 : Int} {l2 : Int} {F : zF} {B : zB} {H : Heap} {locs : List Loc} {ls : Array Slot} (hf : f_M_six_58 rec5 rec19 K l6 l5 l4 l3 l1 l2 F B = some (r, F9, B9)) (hZ : zH D ca ad lnM nM L F B A H) (hS : va_S A s.heap H locs) (hl : lv_has ls 7 [(6, .int (iI l6)), (5, .int (iI l5)), (4, .int (iI l4)), (3, .int (iI l3)), (0, .ref (ad 14 0 0)), (1, .int (iI l1)), (2, .int (iI l2))]) : W p l e ({ frames := 0, cells := 0, slots := 0, locals := 0 } : Room) s m args below meth c H locs 0 0 (MQ below (Q_M_six D ca ad L r F9 B9 A) args s 0 0 A) (F0 m 58 ls []) := by
  obtain ⟨hx, hb, hr, hml, hown, hts, hlk, hK, hA, hL, hX⟩ := id X
  replace hf : (rec19 (l6 + 1) l5 l4 l3 l1 l2 F B) = some (r, F9, B9) := hf
  refine lv_iinc (v := iI (l6 + 1)) (lv' := [(6, .int (iI (l6 + 1))), (5, .int (iI l5)), (4, .int (iI l4)), (3, .int (iI l3)), (0, .ref (ad 14 0 0)), (1, .int (iI l1)), (2, .int (iI l2))]) hx hb d_15_155_58 hl (k := 0) rfl (iI_add _ 1) (by decide) rfl (fun ls hl => ?_)
  refine lv_goto (tgt := 19) hx hb (D_167 W_prog_15_method_155_code_32 29 rfl rfl rfl) (by decide) ?_
  exact hrec19 hf hZ hS (lv_sub hl [0, 1, 2, 3, 4, 5, 6] rfl)

def f_M_six_19 (rec5 : Int → Int → Int → Int → zF → zB → zO) (K : Nat) : Nat → Int → Int → Int → Int → Int → Int → zF → zB → zO
  | 0, _, _, _, _, _, _, _, _ => none
  | n + 1, l6, l5, l4, l3, l1, l2, F, B => if r32 l6 then if r32 l2 then (if l2 ≤ l6 then if r32 l5 then (if l5 = 128 then some (l3, F, B) else if 0 ≤ l3 ∧ l3 < 6 then rec5 l5 (l3 + 1) l1 l2 F (zup4 B 14 0 95 l3 l5) else none) else none else if 0 ≤ l6 ∧ l6 < 400 then if r32 (B 14 0 77 l6) then if r32 l4 then (if (B 14 0 77 l6) ≤ l4 then f_M_six_58 rec5 (f_M_six_19 rec5 K n) K l6 l5 l4 l3 l1 l2 F B else if r32 l5 then (if l5 ≤ (B 14 0 77 l6) then f_M_six_58 rec5 (f_M_six_19 rec5 K n) K l6 l5 l4 l3 l1 l2 F B else f_M_six_58 rec5 (f_M_six_19 rec5 K n) K l6 (B 14 0 77 l6) l4 l3 l1 l2 F B) else none) else none else none else none) else none else none
set_option maxHeartbeats 4000000 in
set_option maxRecDepth 100000 in
theorem b_M_six_19 {D : va_G} {ca : Nat → ClassId} {ad : Nat → Int → Nat → Nat} {L : List Nat} {aS vS : Nat → Nat} {A : Nat → Prop} {p : Program} {l : Launch} {e : Env} {s : State} {m : MethodId} {args : Array Value} {below : List Frame} {meth : Method} {c : Code} {K : Nat} {r : Int} {F9 : zF} {B9 : zB} (X : zX D ca L aS vS A p s m args meth c prog_15_method_155_code 7 (Option.some Jvm.ClassFile.FieldType.int) "StaveHouseModel") {rec5 : Int → Int → Int → Int → zF → zB → zO} (hrec5 : ∀ {l4 : Int} {l3 : Int} {l1 : Int} {l2 : Int} {F : zF} {B : zB} {H : Heap} {locs : List Loc} {ls : Array Slot}, rec5 l4 l3 l1 l2 F B = some (r, F9, B9) → zH D ca ad lnM nM L F B A H → va_S A s.heap H locs → lv_has ls 7 [(4, .int (iI l4)), (3, .int (iI l3)), (0, .ref (ad 14 0 0)), (1, .int (iI l1)), (2, .int (iI l2))] → W p l e ({ frames := 0, cells := 0, slots := 0, locals := 0 } : Room) s m args below meth c H locs 0 0 (MQ below (Q_M_six D ca ad L r F9 B9 A) args s 0 0 A) (F0 m 5 ls [])) : ∀ {n : Nat} {l6 : Int} {l5 : Int} {l4 : Int} {l3 : Int} {l1 : Int} {l2 : Int} {F : zF} {B : zB} {H : Heap} {locs : List Loc} {ls : Array Slot}, f_M_six_19 rec5 K n l6 l5 l4 l3 l1 l2 F B = some (r, F9, B9) → zH D ca ad lnM nM L F B A H → va_S A s.heap H locs → lv_has ls 7 [(6, .int (iI l6)), (5, .int (iI l5)), (4, .int (iI l4)), (3, .int (iI l3)), (0, .ref (ad 14 0 0)), (1, .int (iI l1)), (2, .int (iI l2))] → W p l e ({ frames := 0, cells := 0, slots := 0, locals := 0 } : Room) s m args below meth c H locs 0 0 (MQ below (Q_M_six D ca ad L r F9 B9 A) args s 0 0 A) (F0 m 19 ls []) := by
  obtain ⟨hx, hb, hr, hml, hown, hts, hlk, hK, hA, hL, hX⟩ := id X
  intro n
  induction n with
  | zero =>
    intros
    rename_i hf _ _ _
    cases hf
  | succ n ih =>
    intro l6 l5 l4 l3 l1 l2 F B H locs ls hf hZ hS hl
    replace hf : (if r32 l6 then if r32 l2 then (if l2 ≤ l6 then if r32 l5 then (if l5 = 128 then some (l3, F, B) else if 0 ≤ l3 ∧ l3 < 6 then rec5 l5 (l3 + 1) l1 l2 F (zup4 B 14 0 95 l3 l5) else none) else none else if 0 ≤ l6 ∧ l6 < 400 then if r32 (B 14 0 77 l6) then if r32 l4 then (if (B 14 0 77 l6) ≤ l4 then f_M_six_58 rec5 (f_M_six_19 rec5 K n) K l6 l5 l4 l3 l1 l2 F B else if r32 l5 then (if l5 ≤ (B 14 0 77 l6) then f_M_six_58 rec5 (f_M_six_19 rec5 K n) K l6 l5 l4 l3 l1 l2 F B else f_M_six_58 rec5 (f_M_six_19 rec5 K n) K l6 (B 14 0 77 l6) l4 l3 l1 l2 F B) else none) else none else none else none) else none else none) = some (r, F9, B9) := hf
    refine lv_iload hx hb (D_21 W_prog_15_method_155_code_0 19 rfl rfl) (lv_at hl 0 rfl) ?_
    refine lv_iload_n hx hb (D_28 W_prog_15_method_155_code_0 21 rfl rfl) rfl (lv_at hl 6 rfl) ?_
    obtain ⟨g3, hf⟩ := gif hf
    obtain ⟨g4, hf⟩ := gif hf
    refine zge (tgt := 64) hx hb g3 g4 (D_162 W_prog_15_method_155_code_0 22 rfl rfl rfl) (by decide) (fun h5 => ?_) (fun h5 => ?_)
    · replace hf := gpos hf h5
      refine lv_iload hx hb (D_21 W_prog_15_method_155_code_64 0 rfl rfl) (lv_at hl 1 rfl) ?_
      refine lv_sipush (v := iI 128) hx hb (D_17 W_prog_15_method_155_code_64 2 rfl rfl rfl) (by decide) ?_
      obtain ⟨g6, hf⟩ := gif hf
      refine zne (tgt := 74) hx hb g6 (by decide) (D_160 W_prog_15_method_155_code_64 5 rfl rfl rfl) (by decide) (fun h7 => ?_) (fun h7 => ?_)
      · replace hf := gneg hf h7
        refine lv_aload_n hx hb (D_42 W_prog_15_method_155_code_64 10 rfl rfl) rfl (lv_at hl 4 rfl) ?_
        refine zget (ci := 14) (C := RX14) (T := TX14) (v := .ref (ad 14 0 (95 + 1))) (k := 95) hx hb hts inW_14 hown hK hZ (by decide) (by decide) rfl (by decide) k_11_93 rfl (D_180 W_prog_15_method_155_code_64 11 rfl rfl rfl) ?_
        refine lv_iload_n hx hb (D_29 W_prog_15_method_155_code_64 14 rfl rfl) rfl (lv_at hl 3 rfl) ?_
        refine lv_iload hx hb (D_21 W_prog_15_method_155_code_64 15 rfl rfl) (lv_at hl 1 rfl) ?_
        obtain ⟨g8, hf⟩ := gif hf
        refine zast (ci := 14) (k := 95) hx hb hK rfl hZ hS (by decide) (by decide) rfl (Nat.le_of_ble_eq_true rfl) g8.1 g8.2 (D_79 W_prog_15_method_155_code_64 17 rfl rfl) (fun H9 locs9 hZ9 hS9 => ?_)
        refine lv_iload hx hb (D_21 W_prog_15_method_155_code_64 18 rfl rfl) (lv_at hl 1 rfl) ?_
        refine lv_istore (lv' := [(4, .int (iI l5)), (6, .int (iI l6)), (5, .int (iI l5)), (3, .int (iI l3)), (0, .ref (ad 14 0 0)), (1, .int (iI l1)), (2, .int (iI l2))]) hx hb (D_54 W_prog_15_method_155_code_64 20 rfl rfl) hl (by decide) rfl (fun ls hl => ?_)
        refine lv_iinc (v := iI (l3 + 1)) (lv' := [(3, .int (iI (l3 + 1))), (4, .int (iI l5)), (6, .int (iI l6)), (5, .int (iI l5)), (0, .ref (ad 14 0 0)), (1, .int (iI l1)), (2, .int (iI l2))]) hx hb d_15_155_86 hl (k := 3) rfl (iI_add _ 1) (by decide) rfl (fun ls hl => ?_)
        refine lv_goto (tgt := 5) hx hb (D_167 W_prog_15_method_155_code_64 25 rfl rfl rfl) (by decide) ?_
        exact hrec5 hf hZ9 hS9 (lv_sub hl [1, 0, 4, 5, 6] rfl)
      · replace hf := gpos hf h7
        refine lv_iload_n hx hb (D_29 W_prog_15_method_155_code_64 8 rfl rfl) rfl (lv_at hl 3 rfl) ?_
        cases hf
        exact W.iret hx hb hr (fun t ht hW => ⟨⟨_, (), rfl, rfl, by rw [ht]; exact hZ, va_K.moved hW.alike hK⟩, hS.F ht⟩) hS.2.2 (D_172 W_prog_15_method_155_code_64 9 rfl rfl) hlk
    · replace hf := gneg hf h5
      refine lv_aload_n hx hb (D_42 W_prog_15_method_155_code_0 25 rfl rfl) rfl (lv_at hl 4 rfl) ?_
      refine zget (ci := 14) (C := RX14) (T := TX14) (v := .ref (ad 14 0 (77 + 1))) (k := 77) hx hb hts inW_14 hown hK hZ (by decide) (by decide) rfl (by decide) k_11_75 rfl (D_180 W_prog_15_method_155_code_0 26 rfl rfl rfl) ?_
      refine lv_iload hx hb (D_21 W_prog_15_method_155_code_0 29 rfl rfl) (lv_at hl 0 rfl) ?_
      obtain ⟨g10, hf⟩ := gif hf
      refine zald (ci := 14) (k := 77) hx hb hK rfl hZ (by decide) (by decide) rfl (Nat.le_of_ble_eq_true rfl) g10.1 g10.2 (D_46 W_prog_15_method_155_code_0 31 rfl rfl) ?_
      refine lv_iload hx hb (D_21 W_prog_15_method_155_code_32 0 rfl rfl) (lv_at hl 2 rfl) ?_
      obtain ⟨g11, hf⟩ := gif hf
      obtain ⟨g12, hf⟩ := gif hf
      refine zle (tgt := 58) hx hb g11 g12 (D_164 W_prog_15_method_155_code_32 2 rfl rfl rfl) (by decide) (fun h13 => ?_) (fun h13 => ?_)
      · replace hf := gpos hf h13
        exact b_M_six_58 X hrec5 ih hf hZ hS (lv_sub hl [0, 1, 2, 3, 4, 5, 6] rfl)
      · replace hf := gneg hf h13
        refine lv_aload_n hx hb (D_42 W_prog_15_method_155_code_32 5 rfl rfl) rfl (lv_at hl 4 rfl) ?_
        refine zget (ci := 14) (C := RX14) (T := TX14) (v := .ref (ad 14 0 (77 + 1))) (k := 77) hx hb hts inW_14 hown hK hZ (by decide) (by decide) rfl (by decide) k_11_75 rfl (D_180 W_prog_15_method_155_code_32 6 rfl rfl rfl) ?_
        refine lv_iload hx hb (D_21 W_prog_15_method_155_code_32 9 rfl rfl) (lv_at hl 0 rfl) ?_
        refine zald (ci := 14) (k := 77) hx hb hK rfl hZ (by decide) (by decide) rfl (Nat.le_of_ble_eq_true rfl) g10.1 g10.2 (D_46 W_prog_15_method_155_code_32 11 rfl rfl) ?_
        refine lv_iload hx hb (D_21 W_prog_15_method_155_code_32 12 rfl rfl) (lv_at hl 1 rfl) ?_
        obtain ⟨g14, hf⟩ := gif hf
        refine zge (tgt := 58) hx hb g11 g14 (D_162 W_prog_15_method_155_code_32 14 rfl rfl rfl) (by decide) (fun h15 => ?_) (fun h15 => ?_)
        · replace hf := gpos hf h15
          exact b_M_six_58 X hrec5 ih hf hZ hS (lv_sub hl [0, 1, 2, 3, 4, 5, 6] rfl)
        · replace hf := gneg hf h15
          refine lv_aload_n hx hb (D_42 W_prog_15_method_155_code_32 17 rfl rfl) rfl (lv_at hl 4 rfl) ?_
          refine zget (ci := 14) (C := RX14) (T := TX14) (v := .ref (ad 14 0 (77 + 1))) (k := 77) hx hb hts inW_14 hown hK hZ (by decide) (by decide) rfl (by decide) k_11_75 rfl (D_180 W_prog_15_method_155_code_32 18 rfl rfl rfl) ?_
          refine lv_iload hx hb (D_21 W_prog_15_method_155_code_32 21 rfl rfl) (lv_at hl 0 rfl) ?_
          refine zald (ci := 14) (k := 77) hx hb hK rfl hZ (by decide) (by decide) rfl (Nat.le_of_ble_eq_true rfl) g10.1 g10.2 (D_46 W_prog_15_method_155_code_32 23 rfl rfl) ?_
          refine lv_istore (lv' := [(5, .int (iI (B 14 0 77 l6))), (6, .int (iI l6)), (4, .int (iI l4)), (3, .int (iI l3)), (0, .ref (ad 14 0 0)), (1, .int (iI l1)), (2, .int (iI l2))]) hx hb (D_54 W_prog_15_method_155_code_32 24 rfl rfl) hl (by decide) rfl (fun ls hl => ?_)
          exact b_M_six_58 X hrec5 ih hf hZ hS (lv_sub hl [1, 0, 2, 3, 4, 5, 6] rfl)

def f_M_six_5 (K : Nat) : Nat → Int → Int → Int → Int → zF → zB → zO
  | 0, _, _, _, _, _, _ => none
  | n + 1, l4, l3, l1, l2, F, B => if r32 l3 then (if 6 ≤ l3 then some (l3, F, B) else f_M_six_19 (f_M_six_5 K n) K K l1 128 l4 l3 l1 l2 F B) else none
set_option maxHeartbeats 4000000 in
set_option maxRecDepth 100000 in
theorem b_M_six_5 {D : va_G} {ca : Nat → ClassId} {ad : Nat → Int → Nat → Nat} {L : List Nat} {aS vS : Nat → Nat} {A : Nat → Prop} {p : Program} {l : Launch} {e : Env} {s : State} {m : MethodId} {args : Array Value} {below : List Frame} {meth : Method} {c : Code} {K : Nat} {r : Int} {F9 : zF} {B9 : zB} (X : zX D ca L aS vS A p s m args meth c prog_15_method_155_code 7 (Option.some Jvm.ClassFile.FieldType.int) "StaveHouseModel") : ∀ {n : Nat} {l4 : Int} {l3 : Int} {l1 : Int} {l2 : Int} {F : zF} {B : zB} {H : Heap} {locs : List Loc} {ls : Array Slot}, f_M_six_5 K n l4 l3 l1 l2 F B = some (r, F9, B9) → zH D ca ad lnM nM L F B A H → va_S A s.heap H locs → lv_has ls 7 [(4, .int (iI l4)), (3, .int (iI l3)), (0, .ref (ad 14 0 0)), (1, .int (iI l1)), (2, .int (iI l2))] → W p l e ({ frames := 0, cells := 0, slots := 0, locals := 0 } : Room) s m args below meth c H locs 0 0 (MQ below (Q_M_six D ca ad L r F9 B9 A) args s 0 0 A) (F0 m 5 ls []) := by
  obtain ⟨hx, hb, hr, hml, hown, hts, hlk, hK, hA, hL, hX⟩ := id X
  intro n
  induction n with
  | zero =>
    intros
    rename_i hf _ _ _
    cases hf
  | succ n ih =>
    intro l4 l3 l1 l2 F B H locs ls hf hZ hS hl
    replace hf : (if r32 l3 then (if 6 ≤ l3 then some (l3, F, B) else f_M_six_19 (f_M_six_5 K n) K K l1 128 l4 l3 l1 l2 F B) else none) = some (r, F9, B9) := hf
    refine lv_iload_n hx hb (D_29 W_prog_15_method_155_code_0 5 rfl rfl) rfl (lv_at hl 1 rfl) ?_
    refine lv_bipush (v := iI 6) hx hb (D_16 W_prog_15_method_155_code_0 6 rfl rfl rfl) (by decide) ?_
    obtain ⟨g1, hf⟩ := gif hf
    refine zge (tgt := 92) hx hb g1 (by decide) (D_162 W_prog_15_method_155_code_0 8 rfl rfl rfl) (by decide) (fun h2 => ?_) (fun h2 => ?_)
    · replace hf := gpos hf h2
      refine lv_iload_n hx hb (D_29 W_prog_15_method_155_code_64 28 rfl rfl) rfl (lv_at hl 1 rfl) ?_
      cases hf
      exact W.iret hx hb hr (fun t ht hW => ⟨⟨_, (), rfl, rfl, by rw [ht]; exact hZ, va_K.moved hW.alike hK⟩, hS.F ht⟩) hS.2.2 (D_172 W_prog_15_method_155_code_64 29 rfl rfl) hlk
    · replace hf := gneg hf h2
      refine lv_sipush (v := iI 128) hx hb (D_17 W_prog_15_method_155_code_0 11 rfl rfl rfl) (by decide) ?_
      refine lv_istore (lv' := [(5, .int (iI 128)), (4, .int (iI l4)), (3, .int (iI l3)), (0, .ref (ad 14 0 0)), (1, .int (iI l1)), (2, .int (iI l2))]) hx hb (D_54 W_prog_15_method_155_code_0 14 rfl rfl) hl (by decide) rfl (fun ls hl => ?_)
      refine lv_iload_n hx hb (D_27 W_prog_15_method_155_code_0 16 rfl rfl) rfl (lv_at hl 4 rfl) ?_
      refine lv_istore (lv' := [(6, .int (iI l1)), (5, .int (iI 128)), (4, .int (iI l4)), (3, .int (iI l3)), (0, .ref (ad 14 0 0)), (1, .int (iI l1)), (2, .int (iI l2))]) hx hb (D_54 W_prog_15_method_155_code_0 17 rfl rfl) hl (by decide) rfl (fun ls hl => ?_)
      exact b_M_six_19 X ih hf hZ hS (lv_sub hl [0, 1, 2, 3, 4, 5, 6] rfl)

def f_M_six (K : Nat) (l1 : Int) (l2 : Int) (F : zF) (B : zB) : zO := f_M_six_5 K K (-1) 0 l1 l2 F B
set_option maxHeartbeats 4000000 in
set_option maxRecDepth 100000 in
theorem c_M_six {l : Launch} {D : va_G} {ca : Nat → ClassId} {ad : Nat → Int → Nat → Nat} {L : List Nat} {aS vS : Nat → Nat} {sz K : Nat}  {l1 : Int} {l2 : Int} {F F9 : zF} {B B9 : zB} {r : Int} (hf : f_M_six K l1 l2 F B = some (r, F9, B9)) : Met l ({ cls := "StaveHouseModel", name := "six", desc := "(II)I" } : Jvm.MethodName) (Cond.code ({ cls := "StaveHouseModel", name := "six", desc := "(II)I" } : Jvm.MethodName) prog_15_method_155_code 7 (Option.some Jvm.ClassFile.FieldType.int) :: wAll) ({ frames := 0, cells := 0, slots := 0, locals := 0 } : Room) (va_Pc [.ref (ad 14 0 0), .int (iI l1), .int (iI l2)] (zPre D ca ad lnM nM L aS vS F B sz)) (Q_M_six D ca ad L r F9 B9 (zA L sz)) 0 0 (zA L sz) := by
  refine zMet (Qc := Q_M_six D ca ad L r F9 B9) (lv := [(0, .ref (ad 14 0 0)), (1, .int (iI l1)), (2, .int (iI l2))]) (by decide) (Nat.le_of_ble_eq_true rfl) rfl (fun A p e s m below meth c ls X hZ hS hl => ?_)
  obtain ⟨hx, hb, hr, hml, hown, hts, hlk, hK, hA, hL, hX⟩ := id X
  replace hf : (f_M_six_5 K K (-1) 0 l1 l2 F B) = some (r, F9, B9) := hf
  refine lv_iconst (v := iI 0) hx hb (D_3 W_prog_15_method_155_code_0 0 rfl rfl) rfl ?_
  refine lv_istore_n (lv' := [(3, .int (iI 0)), (0, .ref (ad 14 0 0)), (1, .int (iI l1)), (2, .int (iI l2))]) hx hb (D_62 W_prog_15_method_155_code_0 1 rfl rfl) rfl hl (by decide) rfl (fun ls hl => ?_)
  refine lv_iconst (v := iI (-1)) hx hb (D_2 W_prog_15_method_155_code_0 2 rfl rfl) rfl ?_
  refine lv_istore (lv' := [(4, .int (iI (-1))), (3, .int (iI 0)), (0, .ref (ad 14 0 0)), (1, .int (iI l1)), (2, .int (iI l2))]) hx hb (D_54 W_prog_15_method_155_code_0 3 rfl rfl) hl (by decide) rfl (fun ls hl => ?_)
  exact b_M_six_5 X hf hZ hS (lv_sub hl [0, 1, 2, 3, 4] rfl)

abbrev Q_M_compare (D : va_G) (ca : Nat → ClassId) (ad : Nat → Int → Nat → Nat) (L : List Nat) (r : Int) (F : zF) (B : zB) (A : Nat → Prop) : Array Value → State → Outcome → State → Prop := va_Qi (S := Unit) (fun p _ => p = iI r) (fun _ => zPo D ca ad lnM nM L F B A) A
def f_M_compare_51 (K : Nat) (s0 : Int) (F : zF) (B : zB) : zO := some (s0, F, B)
set_option maxHeartbeats 4000000 in
set_option maxRecDepth 100000 in
theorem b_M_compare_51 {D : va_G} {ca : Nat → ClassId} {ad : Nat → Int → Nat → Nat} {L : List Nat} {aS vS : Nat → Nat} {A : Nat → Prop} {p : Program} {l : Launch} {e : Env} {s : State} {m : MethodId} {args : Array Value} {below : List Frame} {meth : Method} {c : Code} {K : Nat} {r : Int} {F9 : zF} {B9 : zB} (X : zX D ca L aS vS A p s m args meth c prog_15_method_6_code 14 (Option.some Jvm.ClassFile.FieldType.int) "StaveHouseModel") {s0 : Int} {F : zF} {B : zB} {H : Heap} {locs : List Loc} {ls : Array Slot} (hf : f_M_compare_51 K s0 F B = some (r, F9, B9)) (hZ : zH D ca ad lnM nM L F B A H) (hS : va_S A s.heap H locs) (hl : lv_has ls 14 []) : W p l e ({ frames := 1, cells := 0, slots := 0, locals := 29 } : Room) s m args below meth c H locs 0 0 (MQ below (Q_M_compare D ca ad L r F9 B9 A) args s 0 0 A) (F0 m 51 ls [.int (iI s0)]) := by
  obtain ⟨hx, hb, hr, hml, hown, hts, hlk, hK, hA, hL, hX⟩ := id X
  replace hf : (some (s0, F, B)) = some (r, F9, B9) := hf
  cases hf
  exact W.iret hx hb hr (fun t ht hW => ⟨⟨_, (), rfl, rfl, by rw [ht]; exact hZ, va_K.moved hW.alike hK⟩, hS.F ht⟩) hS.2.2 (D_172 W_prog_15_method_6_code_32 19 rfl rfl) hlk

def f_M_compare (K : Nat) (l0 : Int) (l2 : Int) (l4 : Int) (l6 : Int) (F : zF) (B : zB) : zO := zbind (f_M_gcd K l2 l6 F B) (fun r1 F1 B1 => if ¬ lI r1 = 0 then if r64 (l0 * (zldv l6 r1)) then if r64 (l4 * (zldv l2 r1)) then (if 0 ≤ (zcmp (l0 * (zldv l6 r1)) (l4 * (zldv l2 r1))) then (if (zcmp (l0 * (zldv l6 r1)) (l4 * (zldv l2 r1))) ≤ 0 then f_M_compare_51 K 0 F1 B1 else f_M_compare_51 K 1 F1 B1) else f_M_compare_51 K (-1) F1 B1) else none else none else none)
set_option maxHeartbeats 4000000 in
set_option maxRecDepth 100000 in
theorem c_M_compare {l : Launch} {D : va_G} {ca : Nat → ClassId} {ad : Nat → Int → Nat → Nat} {L : List Nat} {aS vS : Nat → Nat} {sz K : Nat}  {l0 : Int} {l2 : Int} {l4 : Int} {l6 : Int} {F F9 : zF} {B B9 : zB} {r : Int} (hf : f_M_compare K l0 l2 l4 l6 F B = some (r, F9, B9)) : Met l ({ cls := "StaveHouseModel", name := "compare", desc := "(JJJJ)I" } : Jvm.MethodName) (Cond.code ({ cls := "StaveHouseModel", name := "compare", desc := "(JJJJ)I" } : Jvm.MethodName) prog_15_method_6_code 14 (Option.some Jvm.ClassFile.FieldType.int) :: wAll) ({ frames := 1, cells := 0, slots := 0, locals := 29 } : Room) (va_Pc [.long (lI l0), .long (lI l2), .long (lI l4), .long (lI l6)] (zPre D ca ad lnM nM L aS vS F B sz)) (Q_M_compare D ca ad L r F9 B9 (zA L sz)) 0 0 (zA L sz) := by
  refine zMet (Qc := Q_M_compare D ca ad L r F9 B9) (lv := [(0, .long (lI l0)), (2, .long (lI l2)), (4, .long (lI l4)), (6, .long (lI l6))]) (by decide) (Nat.le_of_ble_eq_true rfl) rfl (fun A p e s m below meth c ls X hZ hS hl => ?_)
  obtain ⟨hx, hb, hr, hml, hown, hts, hlk, hK, hA, hL, hX⟩ := id X
  replace hf : (zbind (f_M_gcd K l2 l6 F B) (fun r1 F1 B1 => if ¬ lI r1 = 0 then if r64 (l0 * (zldv l6 r1)) then if r64 (l4 * (zldv l2 r1)) then (if 0 ≤ (zcmp (l0 * (zldv l6 r1)) (l4 * (zldv l2 r1))) then (if (zcmp (l0 * (zldv l6 r1)) (l4 * (zldv l2 r1))) ≤ 0 then f_M_compare_51 K 0 F1 B1 else f_M_compare_51 K 1 F1 B1) else f_M_compare_51 K (-1) F1 B1) else none else none else none)) = some (r, F9, B9) := hf
  refine lv_lload_n hx hb (D_32 W_prog_15_method_6_code_0 0 rfl rfl) rfl (lv_at hl 1 rfl) ?_
  refine lv_lload hx hb (D_22 W_prog_15_method_6_code_0 1 rfl rfl) (lv_at hl 3 rfl) ?_
  obtain ⟨r1, F1, B1, hc1, hf⟩ := gbind hf
  refine va_calll (va_runS (As := [.long (lI l2), .long (lI l6)]) (rest := []) ⟨hx, hb, hml, hown, hts⟩ (c_M_gcd (l := l) hc1) (va_cwS 2 hts (gdS k_12_151 k_12_152 k_1_9 k_12_153) rfl rfl rfl (by decide +kernel) ⟨Nat.le_of_ble_eq_true rfl, Nat.le_of_ble_eq_true rfl⟩) (zPS X hZ hS [.long (lI l2), .long (lI l6)]) rfl rfl hl.1 rfl (lv_room (Nat.le_of_ble_eq_true rfl)) (D_184 W_prog_15_method_6_code_0 3 rfl rfl rfl) ⟨Nat.le_of_ble_eq_true rfl, Nat.le_of_ble_eq_true rfl⟩) hS (fun q _ h => zAin X hS q h) (zAin X hS) (fun p1 u1 t1 H1 locs1 ht1 hv1 hw1 hB1 hz1 hk1 hS1 => ?_)
  have hZ1 := zBack X ht1 hB1
  subst hw1
  refine lv_lstore (lv' := [(8, .long (lI r1)), (0, .long (lI l0)), (2, .long (lI l2)), (4, .long (lI l4)), (6, .long (lI l6))]) hx hb (D_55 W_prog_15_method_6_code_0 6 rfl rfl) hl (by decide) rfl (fun ls hl => ?_)
  refine lv_lload_n hx hb (D_30 W_prog_15_method_6_code_0 8 rfl rfl) rfl (lv_at hl 1 rfl) ?_
  refine lv_lload hx hb (D_22 W_prog_15_method_6_code_0 9 rfl rfl) (lv_at hl 4 rfl) ?_
  refine lv_lload hx hb (D_22 W_prog_15_method_6_code_0 11 rfl rfl) (lv_at hl 0 rfl) ?_
  obtain ⟨g2, hf⟩ := gif hf
  refine zldv_r hx hb g2 (D_109 W_prog_15_method_6_code_0 13 rfl rfl) ?_
  refine zlmul hx hb (D_105 W_prog_15_method_6_code_0 14 rfl rfl) ?_
  refine lv_lstore (lv' := [(10, .long (lI (l0 * (zldv l6 r1)))), (8, .long (lI r1)), (0, .long (lI l0)), (2, .long (lI l2)), (4, .long (lI l4)), (6, .long (lI l6))]) hx hb (D_55 W_prog_15_method_6_code_0 15 rfl rfl) hl (by decide) rfl (fun ls hl => ?_)
  refine lv_lload hx hb (D_22 W_prog_15_method_6_code_0 17 rfl rfl) (lv_at hl 4 rfl) ?_
  refine lv_lload_n hx hb (D_32 W_prog_15_method_6_code_0 19 rfl rfl) rfl (lv_at hl 3 rfl) ?_
  refine lv_lload hx hb (D_22 W_prog_15_method_6_code_0 20 rfl rfl) (lv_at hl 1 rfl) ?_
  refine zldv_r hx hb g2 (D_109 W_prog_15_method_6_code_0 22 rfl rfl) ?_
  refine zlmul hx hb (D_105 W_prog_15_method_6_code_0 23 rfl rfl) ?_
  refine lv_lstore (lv' := [(12, .long (lI (l4 * (zldv l2 r1)))), (10, .long (lI (l0 * (zldv l6 r1)))), (8, .long (lI r1)), (0, .long (lI l0)), (2, .long (lI l2)), (4, .long (lI l4)), (6, .long (lI l6))]) hx hb (D_55 W_prog_15_method_6_code_0 24 rfl rfl) hl (by decide) rfl (fun ls hl => ?_)
  refine lv_lload hx hb (D_22 W_prog_15_method_6_code_0 26 rfl rfl) (lv_at hl 1 rfl) ?_
  refine lv_lload hx hb (D_22 W_prog_15_method_6_code_0 28 rfl rfl) (lv_at hl 0 rfl) ?_
  obtain ⟨g3, hf⟩ := gif hf
  obtain ⟨g4, hf⟩ := gif hf
  refine zcmp_r hx hb g3 g4 (D_148 W_prog_15_method_6_code_0 30 rfl rfl) ?_
  refine z0ge (tgt := 38) hx hb zcmp_32 (D_156 W_prog_15_method_6_code_0 31 rfl rfl rfl) (by decide) (fun h5 => ?_) (fun h5 => ?_)
  · replace hf := gpos hf h5
    refine lv_lload hx hb (D_22 W_prog_15_method_6_code_32 6 rfl rfl) (lv_at hl 1 rfl) ?_
    refine lv_lload hx hb (D_22 W_prog_15_method_6_code_32 8 rfl rfl) (lv_at hl 0 rfl) ?_
    refine zcmp_r hx hb g3 g4 (D_148 W_prog_15_method_6_code_32 10 rfl rfl) ?_
    refine z0le (tgt := 50) hx hb zcmp_32 (D_158 W_prog_15_method_6_code_32 11 rfl rfl rfl) (by decide) (fun h6 => ?_) (fun h6 => ?_)
    · replace hf := gpos hf h6
      refine lv_iconst (v := iI 0) hx hb (D_3 W_prog_15_method_6_code_32 18 rfl rfl) rfl ?_
      exact b_M_compare_51 X hf hZ1 hS1 (lv_sub hl [] rfl)
    · replace hf := gneg hf h6
      refine lv_iconst (v := iI 1) hx hb (D_4 W_prog_15_method_6_code_32 14 rfl rfl) rfl ?_
      refine lv_goto (tgt := 51) hx hb (D_167 W_prog_15_method_6_code_32 15 rfl rfl rfl) (by decide) ?_
      exact b_M_compare_51 X hf hZ1 hS1 (lv_sub hl [] rfl)
  · replace hf := gneg hf h5
    refine lv_iconst (v := iI (-1)) hx hb (D_2 W_prog_15_method_6_code_32 2 rfl rfl) rfl ?_
    refine lv_goto (tgt := 51) hx hb (D_167 W_prog_15_method_6_code_32 3 rfl rfl rfl) (by decide) ?_
    exact b_M_compare_51 X hf hZ1 hS1 (lv_sub hl [] rfl)

abbrev Q_M_digits (D : va_G) (ca : Nat → ClassId) (ad : Nat → Int → Nat → Nat) (L : List Nat) (r : Int) (F : zF) (B : zB) (A : Nat → Prop) : Array Value → State → Outcome → State → Prop := va_Qv (S := Unit) (fun _ => True) (fun _ => zPo D ca ad lnM nM L F B A) A
def f_M_digits_18 (K : Nat) : Nat → Int → Int → zF → zB → zO
  | 0, _, _, _, _ => none
  | n + 1, l2, l1, F, B => if r32 l2 then (if l2 ≤ 0 then some (0, F, B) else if ¬ iI l2 = 0 then zbind (f_M_put_0 K (48 + (zrm (zdv l1 l2) 10)) F B) (fun r7 F7 B7 => f_M_digits_18 K n (zdv l2 10) l1 F7 B7) else none) else none
set_option maxHeartbeats 4000000 in
set_option maxRecDepth 100000 in
theorem b_M_digits_18 {D : va_G} {ca : Nat → ClassId} {ad : Nat → Int → Nat → Nat} {L : List Nat} {aS vS : Nat → Nat} {A : Nat → Prop} {p : Program} {l : Launch} {e : Env} {s : State} {m : MethodId} {args : Array Value} {below : List Frame} {meth : Method} {c : Code} {K : Nat} {r : Int} {F9 : zF} {B9 : zB} (X : zX D ca L aS vS A p s m args meth c prog_15_method_125_code 3 (Option.none : Option Jvm.ClassFile.FieldType) "StaveHouseModel") : ∀ {n : Nat} {l2 : Int} {l1 : Int} {F : zF} {B : zB} {H : Heap} {locs : List Loc} {ls : Array Slot}, f_M_digits_18 K n l2 l1 F B = some (r, F9, B9) → zH D ca ad lnM nM L F B A H → va_S A s.heap H locs → lv_has ls 3 [(2, .int (iI l2)), (0, .ref (ad 14 0 0)), (1, .int (iI l1))] → W p l e ({ frames := 1, cells := 0, slots := 0, locals := 21 } : Room) s m args below meth c H locs 0 0 (MQ below (Q_M_digits D ca ad L r F9 B9 A) args s 0 0 A) (F0 m 18 ls []) := by
  obtain ⟨hx, hb, hr, hml, hown, hts, hlk, hK, hA, hL, hX⟩ := id X
  intro n
  induction n with
  | zero =>
    intros
    rename_i hf _ _ _
    cases hf
  | succ n ih =>
    intro l2 l1 F B H locs ls hf hZ hS hl
    replace hf : (if r32 l2 then (if l2 ≤ 0 then some (0, F, B) else if ¬ iI l2 = 0 then zbind (f_M_put_0 K (48 + (zrm (zdv l1 l2) 10)) F B) (fun r7 F7 B7 => f_M_digits_18 K n (zdv l2 10) l1 F7 B7) else none) else none) = some (r, F9, B9) := hf
    refine lv_iload_n hx hb (D_28 W_prog_15_method_125_code_0 18 rfl rfl) rfl (lv_at hl 0 rfl) ?_
    obtain ⟨g4, hf⟩ := gif hf
    refine z0le (tgt := 43) hx hb g4 (D_158 W_prog_15_method_125_code_0 19 rfl rfl rfl) (by decide) (fun h5 => ?_) (fun h5 => ?_)
    · replace hf := gpos hf h5
      cases hf
      exact W.vret hx hb hr (fun t ht hW => ⟨⟨(), rfl, trivial, by rw [ht]; exact hZ, va_K.moved hW.alike hK⟩, hS.F ht⟩) hS.2.2 (D_177 W_prog_15_method_125_code_32 11 rfl rfl) hlk
    · replace hf := gneg hf h5
      refine lv_aload_n hx hb (D_42 W_prog_15_method_125_code_0 22 rfl rfl) rfl (lv_at hl 1 rfl) ?_
      refine lv_bipush (v := iI 48) hx hb (D_16 W_prog_15_method_125_code_0 23 rfl rfl rfl) (by decide) ?_
      refine lv_iload_n hx hb (D_27 W_prog_15_method_125_code_0 25 rfl rfl) rfl (lv_at hl 2 rfl) ?_
      refine lv_iload_n hx hb (D_28 W_prog_15_method_125_code_0 26 rfl rfl) rfl (lv_at hl 0 rfl) ?_
      obtain ⟨g6, hf⟩ := gif hf
      refine zdv_r hx hb g6 (D_108 W_prog_15_method_125_code_0 27 rfl rfl) ?_
      refine lv_bipush (v := iI 10) hx hb (D_16 W_prog_15_method_125_code_0 28 rfl rfl rfl) (by decide) ?_
      refine zrm_r hx hb (by decide) (D_112 W_prog_15_method_125_code_0 30 rfl rfl) ?_
      refine zadd hx hb (D_96 W_prog_15_method_125_code_0 31 rfl rfl) ?_
      obtain ⟨r7, F7, B7, hc7, hf⟩ := gbind hf
      refine va_callv (va_runV (As := [.int (iI (48 + (zrm (zdv l1 l2) 10)))]) (rest := []) ⟨hx, hb, hml, hown, hts⟩ (c_M_put_0 (l := l) hc7) (cwV 1 hts (gdV k_12_199 k_12_201 ks_142 k_1_9 k_12_202) rfl rfl rfl (by decide +kernel) ⟨Nat.le_of_ble_eq_true rfl, Nat.le_of_ble_eq_true rfl⟩) (zPV X hZ hS (ci := 14) (by decide) (by decide) (r := (RX14, TX14, 107)) rfl [.int (iI (48 + (zrm (zdv l1 l2) 10)))]) rfl rfl hl.1 rfl (lv_room (Nat.le_of_ble_eq_true rfl)) (D_182 W_prog_15_method_125_code_32 0 rfl rfl rfl) ⟨Nat.le_of_ble_eq_true rfl, Nat.le_of_ble_eq_true rfl⟩) hS (fun q _ h => zAin X hS q h) (zAin X hS) (fun u7 t7 H7 locs7 ht7 hv7 hw7 hB7 hz7 hk7 hS7 => ?_)
      have hZ7 := zBack X ht7 hB7
      refine lv_iload_n hx hb (D_28 W_prog_15_method_125_code_32 3 rfl rfl) rfl (lv_at hl 0 rfl) ?_
      refine lv_bipush (v := iI 10) hx hb (D_16 W_prog_15_method_125_code_32 4 rfl rfl rfl) (by decide) ?_
      refine zdv_r hx hb (by decide) (D_108 W_prog_15_method_125_code_32 6 rfl rfl) ?_
      refine lv_istore_n (lv' := [(2, .int (iI (zdv l2 10))), (0, .ref (ad 14 0 0)), (1, .int (iI l1))]) hx hb (D_61 W_prog_15_method_125_code_32 7 rfl rfl) rfl hl (by decide) rfl (fun ls hl => ?_)
      refine lv_goto (tgt := 18) hx hb (D_167 W_prog_15_method_125_code_32 8 rfl rfl rfl) (by decide) ?_
      exact ih hf hZ7 hS7 (lv_sub hl [0, 1, 2] rfl)

def f_M_digits_2 (K : Nat) : Nat → Int → Int → zF → zB → zO
  | 0, _, _, _, _ => none
  | n + 1, l2, l1, F, B => if ¬ iI l2 = 0 then if r32 (zdv l1 l2) then (if (zdv l1 l2) ≤ 9 then f_M_digits_18 K K l2 l1 F B else f_M_digits_2 K n (l2 * 10) l1 F B) else none else none
set_option maxHeartbeats 4000000 in
set_option maxRecDepth 100000 in
theorem b_M_digits_2 {D : va_G} {ca : Nat → ClassId} {ad : Nat → Int → Nat → Nat} {L : List Nat} {aS vS : Nat → Nat} {A : Nat → Prop} {p : Program} {l : Launch} {e : Env} {s : State} {m : MethodId} {args : Array Value} {below : List Frame} {meth : Method} {c : Code} {K : Nat} {r : Int} {F9 : zF} {B9 : zB} (X : zX D ca L aS vS A p s m args meth c prog_15_method_125_code 3 (Option.none : Option Jvm.ClassFile.FieldType) "StaveHouseModel") : ∀ {n : Nat} {l2 : Int} {l1 : Int} {F : zF} {B : zB} {H : Heap} {locs : List Loc} {ls : Array Slot}, f_M_digits_2 K n l2 l1 F B = some (r, F9, B9) → zH D ca ad lnM nM L F B A H → va_S A s.heap H locs → lv_has ls 3 [(2, .int (iI l2)), (0, .ref (ad 14 0 0)), (1, .int (iI l1))] → W p l e ({ frames := 1, cells := 0, slots := 0, locals := 21 } : Room) s m args below meth c H locs 0 0 (MQ below (Q_M_digits D ca ad L r F9 B9 A) args s 0 0 A) (F0 m 2 ls []) := by
  obtain ⟨hx, hb, hr, hml, hown, hts, hlk, hK, hA, hL, hX⟩ := id X
  intro n
  induction n with
  | zero =>
    intros
    rename_i hf _ _ _
    cases hf
  | succ n ih =>
    intro l2 l1 F B H locs ls hf hZ hS hl
    replace hf : (if ¬ iI l2 = 0 then if r32 (zdv l1 l2) then (if (zdv l1 l2) ≤ 9 then f_M_digits_18 K K l2 l1 F B else f_M_digits_2 K n (l2 * 10) l1 F B) else none else none) = some (r, F9, B9) := hf
    refine lv_iload_n hx hb (D_27 W_prog_15_method_125_code_0 2 rfl rfl) rfl (lv_at hl 2 rfl) ?_
    refine lv_iload_n hx hb (D_28 W_prog_15_method_125_code_0 3 rfl rfl) rfl (lv_at hl 0 rfl) ?_
    obtain ⟨g1, hf⟩ := gif hf
    refine zdv_r hx hb g1 (D_108 W_prog_15_method_125_code_0 4 rfl rfl) ?_
    refine lv_bipush (v := iI 9) hx hb (D_16 W_prog_15_method_125_code_0 5 rfl rfl rfl) (by decide) ?_
    obtain ⟨g2, hf⟩ := gif hf
    refine zle (tgt := 18) hx hb g2 (by decide) (D_164 W_prog_15_method_125_code_0 7 rfl rfl rfl) (by decide) (fun h3 => ?_) (fun h3 => ?_)
    · replace hf := gpos hf h3
      exact b_M_digits_18 X hf hZ hS (lv_sub hl [0, 1, 2] rfl)
    · replace hf := gneg hf h3
      refine lv_iload_n hx hb (D_28 W_prog_15_method_125_code_0 10 rfl rfl) rfl (lv_at hl 0 rfl) ?_
      refine lv_bipush (v := iI 10) hx hb (D_16 W_prog_15_method_125_code_0 11 rfl rfl rfl) (by decide) ?_
      refine zmul hx hb (D_104 W_prog_15_method_125_code_0 13 rfl rfl) ?_
      refine lv_istore_n (lv' := [(2, .int (iI (l2 * 10))), (0, .ref (ad 14 0 0)), (1, .int (iI l1))]) hx hb (D_61 W_prog_15_method_125_code_0 14 rfl rfl) rfl hl (by decide) rfl (fun ls hl => ?_)
      refine lv_goto (tgt := 2) hx hb (D_167 W_prog_15_method_125_code_0 15 rfl rfl rfl) (by decide) ?_
      exact ih hf hZ hS (lv_sub hl [0, 1, 2] rfl)

def f_M_digits (K : Nat) (l1 : Int) (F : zF) (B : zB) : zO := f_M_digits_2 K K 1 l1 F B
set_option maxHeartbeats 4000000 in
set_option maxRecDepth 100000 in
theorem c_M_digits {l : Launch} {D : va_G} {ca : Nat → ClassId} {ad : Nat → Int → Nat → Nat} {L : List Nat} {aS vS : Nat → Nat} {sz K : Nat}  {l1 : Int} {F F9 : zF} {B B9 : zB} {r : Int} (hf : f_M_digits K l1 F B = some (r, F9, B9)) : Met l ({ cls := "StaveHouseModel", name := "digits", desc := "(I)V" } : Jvm.MethodName) (Cond.code ({ cls := "StaveHouseModel", name := "digits", desc := "(I)V" } : Jvm.MethodName) prog_15_method_125_code 3 (Option.none : Option Jvm.ClassFile.FieldType) :: wAll) ({ frames := 1, cells := 0, slots := 0, locals := 21 } : Room) (va_Pc [.ref (ad 14 0 0), .int (iI l1)] (zPre D ca ad lnM nM L aS vS F B sz)) (Q_M_digits D ca ad L r F9 B9 (zA L sz)) 0 0 (zA L sz) := by
  refine zMet (Qc := Q_M_digits D ca ad L r F9 B9) (lv := [(0, .ref (ad 14 0 0)), (1, .int (iI l1))]) (by decide) (Nat.le_of_ble_eq_true rfl) rfl (fun A p e s m below meth c ls X hZ hS hl => ?_)
  obtain ⟨hx, hb, hr, hml, hown, hts, hlk, hK, hA, hL, hX⟩ := id X
  replace hf : (f_M_digits_2 K K 1 l1 F B) = some (r, F9, B9) := hf
  refine lv_iconst (v := iI 1) hx hb (D_4 W_prog_15_method_125_code_0 0 rfl rfl) rfl ?_
  refine lv_istore_n (lv' := [(2, .int (iI 1)), (0, .ref (ad 14 0 0)), (1, .int (iI l1))]) hx hb (D_61 W_prog_15_method_125_code_0 1 rfl rfl) rfl hl (by decide) rfl (fun ls hl => ?_)
  exact b_M_digits_2 X hf hZ hS (lv_sub hl [0, 1, 2] rfl)

abbrev Q_M_minus (D : va_G) (ca : Nat → ClassId) (ad : Nat → Int → Nat → Nat) (L : List Nat) (r : Int) (F : zF) (B : zB) (A : Nat → Prop) : Array Value → State → Outcome → State → Prop := va_Qv (S := Unit) (fun _ => True) (fun _ => zPo D ca ad lnM nM L F B A) A
def f_M_minus (K : Nat) (l1 : Int) (l3 : Int) (l5 : Int) (l7 : Int) (F : zF) (B : zB) : zO := zbind (f_M_gcd K l3 l7 F B) (fun r1 F1 B1 => if ¬ lI r1 = 0 then zbind (f_M_is K ((l1 * (zldv l7 r1)) - (l5 * (zldv l3 r1))) ((zldv l3 r1) * l7) F1 B1) (fun r3 F3 B3 => some (0, F3, B3)) else none)
set_option maxHeartbeats 4000000 in
set_option maxRecDepth 100000 in
theorem c_M_minus {l : Launch} {D : va_G} {ca : Nat → ClassId} {ad : Nat → Int → Nat → Nat} {L : List Nat} {aS vS : Nat → Nat} {sz K : Nat}  {l1 : Int} {l3 : Int} {l5 : Int} {l7 : Int} {F F9 : zF} {B B9 : zB} {r : Int} (hf : f_M_minus K l1 l3 l5 l7 F B = some (r, F9, B9)) : Met l ({ cls := "StaveHouseModel", name := "minus", desc := "(JJJJ)V" } : Jvm.MethodName) (Cond.code ({ cls := "StaveHouseModel", name := "minus", desc := "(JJJJ)V" } : Jvm.MethodName) prog_15_method_4_code 11 (Option.none : Option Jvm.ClassFile.FieldType) :: wAll) ({ frames := 2, cells := 0, slots := 0, locals := 55 } : Room) (va_Pc [.ref (ad 14 0 0), .long (lI l1), .long (lI l3), .long (lI l5), .long (lI l7)] (zPre D ca ad lnM nM L aS vS F B sz)) (Q_M_minus D ca ad L r F9 B9 (zA L sz)) 0 0 (zA L sz) := by
  refine zMet (Qc := Q_M_minus D ca ad L r F9 B9) (lv := [(0, .ref (ad 14 0 0)), (1, .long (lI l1)), (3, .long (lI l3)), (5, .long (lI l5)), (7, .long (lI l7))]) (by decide) (Nat.le_of_ble_eq_true rfl) rfl (fun A p e s m below meth c ls X hZ hS hl => ?_)
  obtain ⟨hx, hb, hr, hml, hown, hts, hlk, hK, hA, hL, hX⟩ := id X
  replace hf : (zbind (f_M_gcd K l3 l7 F B) (fun r1 F1 B1 => if ¬ lI r1 = 0 then zbind (f_M_is K ((l1 * (zldv l7 r1)) - (l5 * (zldv l3 r1))) ((zldv l3 r1) * l7) F1 B1) (fun r3 F3 B3 => some (0, F3, B3)) else none)) = some (r, F9, B9) := hf
  refine lv_lload_n hx hb (D_33 W_prog_15_method_4_code_0 0 rfl rfl) rfl (lv_at hl 2 rfl) ?_
  refine lv_lload hx hb (D_22 W_prog_15_method_4_code_0 1 rfl rfl) (lv_at hl 4 rfl) ?_
  obtain ⟨r1, F1, B1, hc1, hf⟩ := gbind hf
  refine va_calll (va_runS (As := [.long (lI l3), .long (lI l7)]) (rest := []) ⟨hx, hb, hml, hown, hts⟩ (c_M_gcd (l := l) hc1) (va_cwS 2 hts (gdS k_12_151 k_12_152 k_1_9 k_12_153) rfl rfl rfl (by decide +kernel) ⟨Nat.le_of_ble_eq_true rfl, Nat.le_of_ble_eq_true rfl⟩) (zPS X hZ hS [.long (lI l3), .long (lI l7)]) rfl rfl hl.1 rfl (lv_room (Nat.le_of_ble_eq_true rfl)) (D_184 W_prog_15_method_4_code_0 3 rfl rfl rfl) ⟨Nat.le_of_ble_eq_true rfl, Nat.le_of_ble_eq_true rfl⟩) hS (fun q _ h => zAin X hS q h) (zAin X hS) (fun p1 u1 t1 H1 locs1 ht1 hv1 hw1 hB1 hz1 hk1 hS1 => ?_)
  have hZ1 := zBack X ht1 hB1
  subst hw1
  refine lv_lstore (lv' := [(9, .long (lI r1)), (0, .ref (ad 14 0 0)), (1, .long (lI l1)), (3, .long (lI l3)), (5, .long (lI l5)), (7, .long (lI l7))]) hx hb (D_55 W_prog_15_method_4_code_0 6 rfl rfl) hl (by decide) rfl (fun ls hl => ?_)
  refine lv_aload_n hx hb (D_42 W_prog_15_method_4_code_0 8 rfl rfl) rfl (lv_at hl 1 rfl) ?_
  refine lv_lload_n hx hb (D_31 W_prog_15_method_4_code_0 9 rfl rfl) rfl (lv_at hl 2 rfl) ?_
  refine lv_lload hx hb (D_22 W_prog_15_method_4_code_0 10 rfl rfl) (lv_at hl 5 rfl) ?_
  refine lv_lload hx hb (D_22 W_prog_15_method_4_code_0 12 rfl rfl) (lv_at hl 0 rfl) ?_
  obtain ⟨g2, hf⟩ := gif hf
  refine zldv_r hx hb g2 (D_109 W_prog_15_method_4_code_0 14 rfl rfl) ?_
  refine zlmul hx hb (D_105 W_prog_15_method_4_code_0 15 rfl rfl) ?_
  refine lv_lload hx hb (D_22 W_prog_15_method_4_code_0 16 rfl rfl) (lv_at hl 4 rfl) ?_
  refine lv_lload_n hx hb (D_33 W_prog_15_method_4_code_0 18 rfl rfl) rfl (lv_at hl 3 rfl) ?_
  refine lv_lload hx hb (D_22 W_prog_15_method_4_code_0 19 rfl rfl) (lv_at hl 0 rfl) ?_
  refine zldv_r hx hb g2 (D_109 W_prog_15_method_4_code_0 21 rfl rfl) ?_
  refine zlmul hx hb (D_105 W_prog_15_method_4_code_0 22 rfl rfl) ?_
  refine zlsub hx hb (D_101 W_prog_15_method_4_code_0 23 rfl rfl) ?_
  refine lv_lload_n hx hb (D_33 W_prog_15_method_4_code_0 24 rfl rfl) rfl (lv_at hl 3 rfl) ?_
  refine lv_lload hx hb (D_22 W_prog_15_method_4_code_0 25 rfl rfl) (lv_at hl 0 rfl) ?_
  refine zldv_r hx hb g2 (D_109 W_prog_15_method_4_code_0 27 rfl rfl) ?_
  refine lv_lload hx hb (D_22 W_prog_15_method_4_code_0 28 rfl rfl) (lv_at hl 5 rfl) ?_
  refine zlmul hx hb (D_105 W_prog_15_method_4_code_0 30 rfl rfl) ?_
  obtain ⟨r3, F3, B3, hc3, hf⟩ := gbind hf
  refine va_callv (va_runV (As := [.long (lI ((l1 * (zldv l7 r1)) - (l5 * (zldv l3 r1)))), .long (lI ((zldv l3 r1) * l7))]) (rest := []) ⟨hx, hb, hml, hown, hts⟩ (c_M_is (l := l) hc3) (cwV 2 hts (gdV k_12_154 k_12_156 ks_136 k_1_9 k_12_157) rfl rfl rfl (by decide +kernel) ⟨Nat.le_of_ble_eq_true rfl, Nat.le_of_ble_eq_true rfl⟩) (zPV X hZ1 hS1 (ci := 14) (by decide) (by decide) (r := (RX14, TX14, 107)) rfl [.long (lI ((l1 * (zldv l7 r1)) - (l5 * (zldv l3 r1)))), .long (lI ((zldv l3 r1) * l7))]) rfl rfl hl.1 rfl (lv_room (Nat.le_of_ble_eq_true rfl)) (D_182 W_prog_15_method_4_code_0 31 rfl rfl rfl) ⟨Nat.le_of_ble_eq_true rfl, Nat.le_of_ble_eq_true rfl⟩) hS1 (fun q _ h => zAin X hS1 q h) (zAin X hS1) (fun u3 t3 H3 locs3 ht3 hv3 hw3 hB3 hz3 hk3 hS3 => ?_)
  have hZ3 := zBack X ht3 hB3
  cases hf
  exact W.vret hx hb hr (fun t ht hW => ⟨⟨(), rfl, trivial, by rw [ht]; exact hZ3, va_K.moved hW.alike hK⟩, hS3.F ht⟩) hS3.2.2 (D_177 W_prog_15_method_4_code_32 2 rfl rfl) hlk

abbrev Q_M_often (D : va_G) (ca : Nat → ClassId) (ad : Nat → Int → Nat → Nat) (L : List Nat) (r : Int) (F : zF) (B : zB) (A : Nat → Prop) : Array Value → State → Outcome → State → Prop := va_Ql (S := Unit) (fun p _ => p = lI r) (fun _ => zPo D ca ad lnM nM L F B A) A
def f_M_often (K : Nat) (l0 : Int) (l2 : Int) (l4 : Int) (l6 : Int) (F : zF) (B : zB) : zO := if ¬ lI (l2 * l4) = 0 then some (zldv (l0 * l6) (l2 * l4), F, B) else none
set_option maxHeartbeats 4000000 in
set_option maxRecDepth 100000 in
theorem c_M_often {l : Launch} {D : va_G} {ca : Nat → ClassId} {ad : Nat → Int → Nat → Nat} {L : List Nat} {aS vS : Nat → Nat} {sz K : Nat}  {l0 : Int} {l2 : Int} {l4 : Int} {l6 : Int} {F F9 : zF} {B B9 : zB} {r : Int} (hf : f_M_often K l0 l2 l4 l6 F B = some (r, F9, B9)) : Met l ({ cls := "StaveHouseModel", name := "often", desc := "(JJJJ)J" } : Jvm.MethodName) (Cond.code ({ cls := "StaveHouseModel", name := "often", desc := "(JJJJ)J" } : Jvm.MethodName) prog_15_method_7_code 8 (Option.some Jvm.ClassFile.FieldType.long) :: wAll) ({ frames := 0, cells := 0, slots := 0, locals := 0 } : Room) (va_Pc [.long (lI l0), .long (lI l2), .long (lI l4), .long (lI l6)] (zPre D ca ad lnM nM L aS vS F B sz)) (Q_M_often D ca ad L r F9 B9 (zA L sz)) 0 0 (zA L sz) := by
  refine zMet (Qc := Q_M_often D ca ad L r F9 B9) (lv := [(0, .long (lI l0)), (2, .long (lI l2)), (4, .long (lI l4)), (6, .long (lI l6))]) (by decide) (Nat.le_of_ble_eq_true rfl) rfl (fun A p e s m below meth c ls X hZ hS hl => ?_)
  obtain ⟨hx, hb, hr, hml, hown, hts, hlk, hK, hA, hL, hX⟩ := id X
  replace hf : (if ¬ lI (l2 * l4) = 0 then some (zldv (l0 * l6) (l2 * l4), F, B) else none) = some (r, F9, B9) := hf
  refine lv_lload_n hx hb (D_30 W_prog_15_method_7_code_0 0 rfl rfl) rfl (lv_at hl 0 rfl) ?_
  refine lv_lload hx hb (D_22 W_prog_15_method_7_code_0 1 rfl rfl) (lv_at hl 3 rfl) ?_
  refine zlmul hx hb (D_105 W_prog_15_method_7_code_0 3 rfl rfl) ?_
  refine lv_lload_n hx hb (D_32 W_prog_15_method_7_code_0 4 rfl rfl) rfl (lv_at hl 1 rfl) ?_
  refine lv_lload hx hb (D_22 W_prog_15_method_7_code_0 5 rfl rfl) (lv_at hl 2 rfl) ?_
  refine zlmul hx hb (D_105 W_prog_15_method_7_code_0 7 rfl rfl) ?_
  obtain ⟨g1, hf⟩ := gif hf
  refine zldv_r hx hb g1 (D_109 W_prog_15_method_7_code_0 8 rfl rfl) ?_
  cases hf
  exact W.lret hx hb hr (fun t ht hW => ⟨⟨_, (), rfl, rfl, by rw [ht]; exact hZ, va_K.moved hW.alike hK⟩, hS.F ht⟩) hS.2.2 (D_173 W_prog_15_method_7_code_0 9 rfl rfl) hlk

abbrev Q_M_note_1 (D : va_G) (ca : Nat → ClassId) (ad : Nat → Int → Nat → Nat) (L : List Nat) (r : Int) (F : zF) (B : zB) (A : Nat → Prop) : Array Value → State → Outcome → State → Prop := va_Qv (S := Unit) (fun _ => True) (fun _ => zPo D ca ad lnM nM L F B A) A
def f_M_note_1 (K : Nat) (l1 : Int) (l2 : Int) (l3 : Int) (l4 : Int) (l5 : Int) (l6 : Int) (F : zF) (B : zB) : zO := if 0 ≤ l1 ∧ l1 < 3 then if 0 ≤ l2 ∧ l2 < 4 then if r32 ((zup4 B 13 l1 13 l2 ((B 13 l1 13 l2) + 1)) 13 l1 13 l2) then (if ((zup4 B 13 l1 13 l2 ((B 13 l1 13 l2) + 1)) 13 l1 13 l2) ≤ 800 then if 0 ≤ ((800 * l2) + (B 13 l1 13 l2)) ∧ ((800 * l2) + (B 13 l1 13 l2)) < 3200 then some (0, F, (zup4 (zup4 (zup4 (zup4 (zup4 (zup4 (zup4 B 13 l1 13 l2 ((B 13 l1 13 l2) + 1)) 13 l1 30 ((800 * l2) + (B 13 l1 13 l2)) l3) 13 l1 31 ((800 * l2) + (B 13 l1 13 l2)) l4) 13 l1 32 ((800 * l2) + (B 13 l1 13 l2)) (F 14 0 54)) 13 l1 33 ((800 * l2) + (B 13 l1 13 l2)) (F 14 0 55)) 13 l1 34 ((800 * l2) + (B 13 l1 13 l2)) l5) 13 l1 35 ((800 * l2) + (B 13 l1 13 l2)) l6)) else none else some (0, F, (zup4 B 13 l1 13 l2 ((B 13 l1 13 l2) + 1)))) else none else none else none
set_option maxHeartbeats 4000000 in
set_option maxRecDepth 100000 in
theorem c_M_note_1 {l : Launch} {D : va_G} {ca : Nat → ClassId} {ad : Nat → Int → Nat → Nat} {L : List Nat} {aS vS : Nat → Nat} {sz K : Nat}  {l1 : Int} {l2 : Int} {l3 : Int} {l4 : Int} {l5 : Int} {l6 : Int} {F F9 : zF} {B B9 : zB} {r : Int} (hf : f_M_note_1 K l1 l2 l3 l4 l5 l6 F B = some (r, F9, B9)) : Met l ({ cls := "StaveHouseModel", name := "note", desc := "(LStaveHouseModel$Piece;IIIII)V" } : Jvm.MethodName) (Cond.code ({ cls := "StaveHouseModel", name := "note", desc := "(LStaveHouseModel$Piece;IIIII)V" } : Jvm.MethodName) prog_15_method_89_code 8 (Option.none : Option Jvm.ClassFile.FieldType) :: wAll) ({ frames := 0, cells := 0, slots := 0, locals := 0 } : Room) (va_Pc [.ref (ad 14 0 0), .ref (ad 13 l1 0), .int (iI l2), .int (iI l3), .int (iI l4), .int (iI l5), .int (iI l6)] (zPre D ca ad lnM nM L aS vS F B sz)) (Q_M_note_1 D ca ad L r F9 B9 (zA L sz)) 0 0 (zA L sz) := by
  refine zMet (Qc := Q_M_note_1 D ca ad L r F9 B9) (lv := [(0, .ref (ad 14 0 0)), (1, .ref (ad 13 l1 0)), (2, .int (iI l2)), (3, .int (iI l3)), (4, .int (iI l4)), (5, .int (iI l5)), (6, .int (iI l6))]) (by decide) (Nat.le_of_ble_eq_true rfl) rfl (fun A p e s m below meth c ls X hZ hS hl => ?_)
  obtain ⟨hx, hb, hr, hml, hown, hts, hlk, hK, hA, hL, hX⟩ := id X
  replace hf : (if 0 ≤ l1 ∧ l1 < 3 then if 0 ≤ l2 ∧ l2 < 4 then if r32 ((zup4 B 13 l1 13 l2 ((B 13 l1 13 l2) + 1)) 13 l1 13 l2) then (if ((zup4 B 13 l1 13 l2 ((B 13 l1 13 l2) + 1)) 13 l1 13 l2) ≤ 800 then if 0 ≤ ((800 * l2) + (B 13 l1 13 l2)) ∧ ((800 * l2) + (B 13 l1 13 l2)) < 3200 then some (0, F, (zup4 (zup4 (zup4 (zup4 (zup4 (zup4 (zup4 B 13 l1 13 l2 ((B 13 l1 13 l2) + 1)) 13 l1 30 ((800 * l2) + (B 13 l1 13 l2)) l3) 13 l1 31 ((800 * l2) + (B 13 l1 13 l2)) l4) 13 l1 32 ((800 * l2) + (B 13 l1 13 l2)) (F 14 0 54)) 13 l1 33 ((800 * l2) + (B 13 l1 13 l2)) (F 14 0 55)) 13 l1 34 ((800 * l2) + (B 13 l1 13 l2)) l5) 13 l1 35 ((800 * l2) + (B 13 l1 13 l2)) l6)) else none else some (0, F, (zup4 B 13 l1 13 l2 ((B 13 l1 13 l2) + 1)))) else none else none else none) = some (r, F9, B9) := hf
  refine lv_sipush (v := iI 800) hx hb (D_17 W_prog_15_method_89_code_0 0 rfl rfl rfl) (by decide) ?_
  refine lv_iload_n hx hb (D_28 W_prog_15_method_89_code_0 3 rfl rfl) rfl (lv_at hl 2 rfl) ?_
  refine zmul hx hb (D_104 W_prog_15_method_89_code_0 4 rfl rfl) ?_
  refine lv_aload_n hx hb (D_43 W_prog_15_method_89_code_0 5 rfl rfl) rfl (lv_at hl 1 rfl) ?_
  obtain ⟨g1, hf⟩ := gif hf
  refine zget (ci := 13) (C := RX13) (T := TX13) (v := .ref (ad 13 l1 (13 + 1))) (k := 13) hx hb hts inW_13 hown hK hZ g1.1 g1.2 rfl (by decide) k_9_144 rfl (D_180 W_prog_15_method_89_code_0 6 rfl rfl rfl) ?_
  refine lv_iload_n hx hb (D_28 W_prog_15_method_89_code_0 9 rfl rfl) rfl (lv_at hl 2 rfl) ?_
  obtain ⟨g2, hf⟩ := gif hf
  refine zald (ci := 13) (k := 13) hx hb hK rfl hZ g1.1 g1.2 rfl (Nat.le_of_ble_eq_true rfl) g2.1 g2.2 (D_46 W_prog_15_method_89_code_0 10 rfl rfl) ?_
  refine zadd hx hb (D_96 W_prog_15_method_89_code_0 11 rfl rfl) ?_
  refine lv_istore (lv' := [(7, .int (iI ((800 * l2) + (B 13 l1 13 l2)))), (0, .ref (ad 14 0 0)), (1, .ref (ad 13 l1 0)), (2, .int (iI l2)), (3, .int (iI l3)), (4, .int (iI l4)), (5, .int (iI l5)), (6, .int (iI l6))]) hx hb (D_54 W_prog_15_method_89_code_0 12 rfl rfl) hl (by decide) rfl (fun ls hl => ?_)
  refine lv_aload_n hx hb (D_43 W_prog_15_method_89_code_0 14 rfl rfl) rfl (lv_at hl 2 rfl) ?_
  refine zget (ci := 13) (C := RX13) (T := TX13) (v := .ref (ad 13 l1 (13 + 1))) (k := 13) hx hb hts inW_13 hown hK hZ g1.1 g1.2 rfl (by decide) k_9_144 rfl (D_180 W_prog_15_method_89_code_0 15 rfl rfl rfl) ?_
  refine lv_iload_n hx hb (D_28 W_prog_15_method_89_code_0 18 rfl rfl) rfl (lv_at hl 3 rfl) ?_
  refine lv_dup2_11 hx hb (D_92 W_prog_15_method_89_code_0 19 rfl rfl) rfl rfl ?_
  refine zald (ci := 13) (k := 13) hx hb hK rfl hZ g1.1 g1.2 rfl (Nat.le_of_ble_eq_true rfl) g2.1 g2.2 (D_46 W_prog_15_method_89_code_0 20 rfl rfl) ?_
  refine lv_iconst (v := iI 1) hx hb (D_4 W_prog_15_method_89_code_0 21 rfl rfl) rfl ?_
  refine zadd hx hb (D_96 W_prog_15_method_89_code_0 22 rfl rfl) ?_
  refine zast (ci := 13) (k := 13) hx hb hK rfl hZ hS g1.1 g1.2 rfl (Nat.le_of_ble_eq_true rfl) g2.1 g2.2 (D_79 W_prog_15_method_89_code_0 23 rfl rfl) (fun H3 locs3 hZ3 hS3 => ?_)
  refine lv_aload_n hx hb (D_43 W_prog_15_method_89_code_0 24 rfl rfl) rfl (lv_at hl 2 rfl) ?_
  refine zget (ci := 13) (C := RX13) (T := TX13) (v := .ref (ad 13 l1 (13 + 1))) (k := 13) hx hb hts inW_13 hown hK hZ3 g1.1 g1.2 rfl (by decide) k_9_144 rfl (D_180 W_prog_15_method_89_code_0 25 rfl rfl rfl) ?_
  refine lv_iload_n hx hb (D_28 W_prog_15_method_89_code_0 28 rfl rfl) rfl (lv_at hl 3 rfl) ?_
  refine zald (ci := 13) (k := 13) hx hb hK rfl hZ3 g1.1 g1.2 rfl (Nat.le_of_ble_eq_true rfl) g2.1 g2.2 (D_46 W_prog_15_method_89_code_0 29 rfl rfl) ?_
  refine lv_sipush (v := iI 800) hx hb (D_17 W_prog_15_method_89_code_0 30 rfl rfl rfl) (by decide) ?_
  obtain ⟨g4, hf⟩ := gif hf
  refine zle (tgt := 37) hx hb g4 (by decide) (D_164 W_prog_15_method_89_code_32 1 rfl rfl rfl) (by decide) (fun h5 => ?_) (fun h5 => ?_)
  · replace hf := gpos hf h5
    refine lv_aload_n hx hb (D_43 W_prog_15_method_89_code_32 5 rfl rfl) rfl (lv_at hl 2 rfl) ?_
    refine zget (ci := 13) (C := RX13) (T := TX13) (v := .ref (ad 13 l1 (30 + 1))) (k := 30) hx hb hts inW_13 hown hK hZ3 g1.1 g1.2 rfl (by decide) k_9_178 rfl (D_180 W_prog_15_method_89_code_32 6 rfl rfl rfl) ?_
    refine lv_iload hx hb (D_21 W_prog_15_method_89_code_32 9 rfl rfl) (lv_at hl 0 rfl) ?_
    refine lv_iload_n hx hb (D_29 W_prog_15_method_89_code_32 11 rfl rfl) rfl (lv_at hl 4 rfl) ?_
    obtain ⟨g6, hf⟩ := gif hf
    refine zast (ci := 13) (k := 30) hx hb hK rfl hZ3 hS3 g1.1 g1.2 rfl (Nat.le_of_ble_eq_true rfl) g6.1 g6.2 (D_79 W_prog_15_method_89_code_32 12 rfl rfl) (fun H7 locs7 hZ7 hS7 => ?_)
    refine lv_aload_n hx hb (D_43 W_prog_15_method_89_code_32 13 rfl rfl) rfl (lv_at hl 2 rfl) ?_
    refine zget (ci := 13) (C := RX13) (T := TX13) (v := .ref (ad 13 l1 (31 + 1))) (k := 31) hx hb hts inW_13 hown hK hZ7 g1.1 g1.2 rfl (by decide) k_9_180 rfl (D_180 W_prog_15_method_89_code_32 14 rfl rfl rfl) ?_
    refine lv_iload hx hb (D_21 W_prog_15_method_89_code_32 17 rfl rfl) (lv_at hl 0 rfl) ?_
    refine lv_iload hx hb (D_21 W_prog_15_method_89_code_32 19 rfl rfl) (lv_at hl 5 rfl) ?_
    refine zast (ci := 13) (k := 31) hx hb hK rfl hZ7 hS7 g1.1 g1.2 rfl (Nat.le_of_ble_eq_true rfl) g6.1 g6.2 (D_79 W_prog_15_method_89_code_32 21 rfl rfl) (fun H8 locs8 hZ8 hS8 => ?_)
    refine lv_aload_n hx hb (D_43 W_prog_15_method_89_code_32 22 rfl rfl) rfl (lv_at hl 2 rfl) ?_
    refine zget (ci := 13) (C := RX13) (T := TX13) (v := .ref (ad 13 l1 (32 + 1))) (k := 32) hx hb hts inW_13 hown hK hZ8 g1.1 g1.2 rfl (by decide) k_9_182 rfl (D_180 W_prog_15_method_89_code_32 23 rfl rfl rfl) ?_
    refine lv_iload hx hb (D_21 W_prog_15_method_89_code_32 26 rfl rfl) (lv_at hl 0 rfl) ?_
    refine lv_aload_n hx hb (D_42 W_prog_15_method_89_code_32 28 rfl rfl) rfl (lv_at hl 1 rfl) ?_
    refine zget (ci := 14) (C := RX14) (T := TX14) (v := .long (lI (F 14 0 54))) (k := 54) hx hb hts inW_14 hown hK hZ8 (by decide) (by decide) rfl (by decide) k_11_52 rfl (D_180 W_prog_15_method_89_code_32 29 rfl rfl rfl) ?_
    refine zlast (ci := 13) (k := 32) hx hb hK rfl hZ8 hS8 g1.1 g1.2 rfl (Nat.le_of_ble_eq_true rfl) g6.1 g6.2 (D_80 W_prog_15_method_89_code_64 0 rfl rfl) (fun H9 locs9 hZ9 hS9 => ?_)
    refine lv_aload_n hx hb (D_43 W_prog_15_method_89_code_64 1 rfl rfl) rfl (lv_at hl 2 rfl) ?_
    refine zget (ci := 13) (C := RX13) (T := TX13) (v := .ref (ad 13 l1 (33 + 1))) (k := 33) hx hb hts inW_13 hown hK hZ9 g1.1 g1.2 rfl (by decide) k_9_184 rfl (D_180 W_prog_15_method_89_code_64 2 rfl rfl rfl) ?_
    refine lv_iload hx hb (D_21 W_prog_15_method_89_code_64 5 rfl rfl) (lv_at hl 0 rfl) ?_
    refine lv_aload_n hx hb (D_42 W_prog_15_method_89_code_64 7 rfl rfl) rfl (lv_at hl 1 rfl) ?_
    refine zget (ci := 14) (C := RX14) (T := TX14) (v := .long (lI (F 14 0 55))) (k := 55) hx hb hts inW_14 hown hK hZ9 (by decide) (by decide) rfl (by decide) k_11_53 rfl (D_180 W_prog_15_method_89_code_64 8 rfl rfl rfl) ?_
    refine zlast (ci := 13) (k := 33) hx hb hK rfl hZ9 hS9 g1.1 g1.2 rfl (Nat.le_of_ble_eq_true rfl) g6.1 g6.2 (D_80 W_prog_15_method_89_code_64 11 rfl rfl) (fun H10 locs10 hZ10 hS10 => ?_)
    refine lv_aload_n hx hb (D_43 W_prog_15_method_89_code_64 12 rfl rfl) rfl (lv_at hl 2 rfl) ?_
    refine zget (ci := 13) (C := RX13) (T := TX13) (v := .ref (ad 13 l1 (34 + 1))) (k := 34) hx hb hts inW_13 hown hK hZ10 g1.1 g1.2 rfl (by decide) k_9_186 rfl (D_180 W_prog_15_method_89_code_64 13 rfl rfl rfl) ?_
    refine lv_iload hx hb (D_21 W_prog_15_method_89_code_64 16 rfl rfl) (lv_at hl 0 rfl) ?_
    refine lv_iload hx hb (D_21 W_prog_15_method_89_code_64 18 rfl rfl) (lv_at hl 6 rfl) ?_
    refine zast (ci := 13) (k := 34) hx hb hK rfl hZ10 hS10 g1.1 g1.2 rfl (Nat.le_of_ble_eq_true rfl) g6.1 g6.2 (D_79 W_prog_15_method_89_code_64 20 rfl rfl) (fun H11 locs11 hZ11 hS11 => ?_)
    refine lv_aload_n hx hb (D_43 W_prog_15_method_89_code_64 21 rfl rfl) rfl (lv_at hl 2 rfl) ?_
    refine zget (ci := 13) (C := RX13) (T := TX13) (v := .ref (ad 13 l1 (35 + 1))) (k := 35) hx hb hts inW_13 hown hK hZ11 g1.1 g1.2 rfl (by decide) k_9_188 rfl (D_180 W_prog_15_method_89_code_64 22 rfl rfl rfl) ?_
    refine lv_iload hx hb (D_21 W_prog_15_method_89_code_64 25 rfl rfl) (lv_at hl 0 rfl) ?_
    refine lv_iload hx hb (D_21 W_prog_15_method_89_code_64 27 rfl rfl) (lv_at hl 7 rfl) ?_
    refine zast (ci := 13) (k := 35) hx hb hK rfl hZ11 hS11 g1.1 g1.2 rfl (Nat.le_of_ble_eq_true rfl) g6.1 g6.2 (D_79 W_prog_15_method_89_code_64 29 rfl rfl) (fun H12 locs12 hZ12 hS12 => ?_)
    cases hf
    exact W.vret hx hb hr (fun t ht hW => ⟨⟨(), rfl, trivial, by rw [ht]; exact hZ12, va_K.moved hW.alike hK⟩, hS12.F ht⟩) hS12.2.2 (D_177 W_prog_15_method_89_code_64 30 rfl rfl) hlk
  · replace hf := gneg hf h5
    cases hf
    exact W.vret hx hb hr (fun t ht hW => ⟨⟨(), rfl, trivial, by rw [ht]; exact hZ3, va_K.moved hW.alike hK⟩, hS3.F ht⟩) hS3.2.2 (D_177 W_prog_15_method_89_code_32 4 rfl rfl) hlk

abbrev Q_M_times (D : va_G) (ca : Nat → ClassId) (ad : Nat → Int → Nat → Nat) (L : List Nat) (r : Int) (F : zF) (B : zB) (A : Nat → Prop) : Array Value → State → Outcome → State → Prop := va_Qv (S := Unit) (fun _ => True) (fun _ => zPo D ca ad lnM nM L F B A) A
def f_M_times (K : Nat) (l1 : Int) (l3 : Int) (l5 : Int) (l7 : Int) (F : zF) (B : zB) : zO := zbind (f_M_gcd K l1 l7 F B) (fun r1 F1 B1 => zbind (f_M_gcd K l5 l3 F1 B1) (fun r2 F2 B2 => if ¬ lI r1 = 0 then if ¬ lI r2 = 0 then zbind (f_M_is K ((zldv l1 r1) * (zldv l5 r2)) ((zldv l3 r2) * (zldv l7 r1)) F2 B2) (fun r5 F5 B5 => some (0, F5, B5)) else none else none))
set_option maxHeartbeats 4000000 in
set_option maxRecDepth 100000 in
theorem c_M_times {l : Launch} {D : va_G} {ca : Nat → ClassId} {ad : Nat → Int → Nat → Nat} {L : List Nat} {aS vS : Nat → Nat} {sz K : Nat}  {l1 : Int} {l3 : Int} {l5 : Int} {l7 : Int} {F F9 : zF} {B B9 : zB} {r : Int} (hf : f_M_times K l1 l3 l5 l7 F B = some (r, F9, B9)) : Met l ({ cls := "StaveHouseModel", name := "times", desc := "(JJJJ)V" } : Jvm.MethodName) (Cond.code ({ cls := "StaveHouseModel", name := "times", desc := "(JJJJ)V" } : Jvm.MethodName) prog_15_method_5_code 13 (Option.none : Option Jvm.ClassFile.FieldType) :: wAll) ({ frames := 2, cells := 0, slots := 0, locals := 55 } : Room) (va_Pc [.ref (ad 14 0 0), .long (lI l1), .long (lI l3), .long (lI l5), .long (lI l7)] (zPre D ca ad lnM nM L aS vS F B sz)) (Q_M_times D ca ad L r F9 B9 (zA L sz)) 0 0 (zA L sz) := by
  refine zMet (Qc := Q_M_times D ca ad L r F9 B9) (lv := [(0, .ref (ad 14 0 0)), (1, .long (lI l1)), (3, .long (lI l3)), (5, .long (lI l5)), (7, .long (lI l7))]) (by decide) (Nat.le_of_ble_eq_true rfl) rfl (fun A p e s m below meth c ls X hZ hS hl => ?_)
  obtain ⟨hx, hb, hr, hml, hown, hts, hlk, hK, hA, hL, hX⟩ := id X
  replace hf : (zbind (f_M_gcd K l1 l7 F B) (fun r1 F1 B1 => zbind (f_M_gcd K l5 l3 F1 B1) (fun r2 F2 B2 => if ¬ lI r1 = 0 then if ¬ lI r2 = 0 then zbind (f_M_is K ((zldv l1 r1) * (zldv l5 r2)) ((zldv l3 r2) * (zldv l7 r1)) F2 B2) (fun r5 F5 B5 => some (0, F5, B5)) else none else none))) = some (r, F9, B9) := hf
  refine lv_lload_n hx hb (D_31 W_prog_15_method_5_code_0 0 rfl rfl) rfl (lv_at hl 1 rfl) ?_
  refine lv_lload hx hb (D_22 W_prog_15_method_5_code_0 1 rfl rfl) (lv_at hl 4 rfl) ?_
  obtain ⟨r1, F1, B1, hc1, hf⟩ := gbind hf
  refine va_calll (va_runS (As := [.long (lI l1), .long (lI l7)]) (rest := []) ⟨hx, hb, hml, hown, hts⟩ (c_M_gcd (l := l) hc1) (va_cwS 2 hts (gdS k_12_151 k_12_152 k_1_9 k_12_153) rfl rfl rfl (by decide +kernel) ⟨Nat.le_of_ble_eq_true rfl, Nat.le_of_ble_eq_true rfl⟩) (zPS X hZ hS [.long (lI l1), .long (lI l7)]) rfl rfl hl.1 rfl (lv_room (Nat.le_of_ble_eq_true rfl)) (D_184 W_prog_15_method_5_code_0 3 rfl rfl rfl) ⟨Nat.le_of_ble_eq_true rfl, Nat.le_of_ble_eq_true rfl⟩) hS (fun q _ h => zAin X hS q h) (zAin X hS) (fun p1 u1 t1 H1 locs1 ht1 hv1 hw1 hB1 hz1 hk1 hS1 => ?_)
  have hZ1 := zBack X ht1 hB1
  subst hw1
  refine lv_lstore (lv' := [(9, .long (lI r1)), (0, .ref (ad 14 0 0)), (1, .long (lI l1)), (3, .long (lI l3)), (5, .long (lI l5)), (7, .long (lI l7))]) hx hb (D_55 W_prog_15_method_5_code_0 6 rfl rfl) hl (by decide) rfl (fun ls hl => ?_)
  refine lv_lload hx hb (D_22 W_prog_15_method_5_code_0 8 rfl rfl) (lv_at hl 4 rfl) ?_
  refine lv_lload_n hx hb (D_33 W_prog_15_method_5_code_0 10 rfl rfl) rfl (lv_at hl 3 rfl) ?_
  obtain ⟨r2, F2, B2, hc2, hf⟩ := gbind hf
  refine va_calll (va_runS (As := [.long (lI l5), .long (lI l3)]) (rest := []) ⟨hx, hb, hml, hown, hts⟩ (c_M_gcd (l := l) hc2) (va_cwS 2 hts (gdS k_12_151 k_12_152 k_1_9 k_12_153) rfl rfl rfl (by decide +kernel) ⟨Nat.le_of_ble_eq_true rfl, Nat.le_of_ble_eq_true rfl⟩) (zPS X hZ1 hS1 [.long (lI l5), .long (lI l3)]) rfl rfl hl.1 rfl (lv_room (Nat.le_of_ble_eq_true rfl)) (D_184 W_prog_15_method_5_code_0 11 rfl rfl rfl) ⟨Nat.le_of_ble_eq_true rfl, Nat.le_of_ble_eq_true rfl⟩) hS1 (fun q _ h => zAin X hS1 q h) (zAin X hS1) (fun p2 u2 t2 H2 locs2 ht2 hv2 hw2 hB2 hz2 hk2 hS2 => ?_)
  have hZ2 := zBack X ht2 hB2
  subst hw2
  refine lv_lstore (lv' := [(11, .long (lI r2)), (9, .long (lI r1)), (0, .ref (ad 14 0 0)), (1, .long (lI l1)), (3, .long (lI l3)), (5, .long (lI l5)), (7, .long (lI l7))]) hx hb (D_55 W_prog_15_method_5_code_0 14 rfl rfl) hl (by decide) rfl (fun ls hl => ?_)
  refine lv_aload_n hx hb (D_42 W_prog_15_method_5_code_0 16 rfl rfl) rfl (lv_at hl 2 rfl) ?_
  refine lv_lload_n hx hb (D_31 W_prog_15_method_5_code_0 17 rfl rfl) rfl (lv_at hl 3 rfl) ?_
  refine lv_lload hx hb (D_22 W_prog_15_method_5_code_0 18 rfl rfl) (lv_at hl 1 rfl) ?_
  obtain ⟨g3, hf⟩ := gif hf
  refine zldv_r hx hb g3 (D_109 W_prog_15_method_5_code_0 20 rfl rfl) ?_
  refine lv_lload hx hb (D_22 W_prog_15_method_5_code_0 21 rfl rfl) (lv_at hl 5 rfl) ?_
  refine lv_lload hx hb (D_22 W_prog_15_method_5_code_0 23 rfl rfl) (lv_at hl 0 rfl) ?_
  obtain ⟨g4, hf⟩ := gif hf
  refine zldv_r hx hb g4 (D_109 W_prog_15_method_5_code_0 25 rfl rfl) ?_
  refine zlmul hx hb (D_105 W_prog_15_method_5_code_0 26 rfl rfl) ?_
  refine lv_lload_n hx hb (D_33 W_prog_15_method_5_code_0 27 rfl rfl) rfl (lv_at hl 4 rfl) ?_
  refine lv_lload hx hb (D_22 W_prog_15_method_5_code_0 28 rfl rfl) (lv_at hl 0 rfl) ?_
  refine zldv_r hx hb g4 (D_109 W_prog_15_method_5_code_0 30 rfl rfl) ?_
  refine lv_lload hx hb (D_22 W_prog_15_method_5_code_0 31 rfl rfl) (lv_at hl 6 rfl) ?_
  refine lv_lload hx hb (D_22 W_prog_15_method_5_code_32 1 rfl rfl) (lv_at hl 1 rfl) ?_
  refine zldv_r hx hb g3 (D_109 W_prog_15_method_5_code_32 3 rfl rfl) ?_
  refine zlmul hx hb (D_105 W_prog_15_method_5_code_32 4 rfl rfl) ?_
  obtain ⟨r5, F5, B5, hc5, hf⟩ := gbind hf
  refine va_callv (va_runV (As := [.long (lI ((zldv l1 r1) * (zldv l5 r2))), .long (lI ((zldv l3 r2) * (zldv l7 r1)))]) (rest := []) ⟨hx, hb, hml, hown, hts⟩ (c_M_is (l := l) hc5) (cwV 2 hts (gdV k_12_154 k_12_156 ks_136 k_1_9 k_12_157) rfl rfl rfl (by decide +kernel) ⟨Nat.le_of_ble_eq_true rfl, Nat.le_of_ble_eq_true rfl⟩) (zPV X hZ2 hS2 (ci := 14) (by decide) (by decide) (r := (RX14, TX14, 107)) rfl [.long (lI ((zldv l1 r1) * (zldv l5 r2))), .long (lI ((zldv l3 r2) * (zldv l7 r1)))]) rfl rfl hl.1 rfl (lv_room (Nat.le_of_ble_eq_true rfl)) (D_182 W_prog_15_method_5_code_32 5 rfl rfl rfl) ⟨Nat.le_of_ble_eq_true rfl, Nat.le_of_ble_eq_true rfl⟩) hS2 (fun q _ h => zAin X hS2 q h) (zAin X hS2) (fun u5 t5 H5 locs5 ht5 hv5 hw5 hB5 hz5 hk5 hS5 => ?_)
  have hZ5 := zBack X ht5 hB5
  cases hf
  exact W.vret hx hb hr (fun t ht hW => ⟨⟨(), rfl, trivial, by rw [ht]; exact hZ5, va_K.moved hW.alike hK⟩, hS5.F ht⟩) hS5.2.2 (D_177 W_prog_15_method_5_code_32 8 rfl rfl) hlk

abbrev Q_M_formUp (D : va_G) (ca : Nat → ClassId) (ad : Nat → Int → Nat → Nat) (L : List Nat) (r : Int) (F : zF) (B : zB) (A : Nat → Prop) : Array Value → State → Outcome → State → Prop := va_Ql (S := Unit) (fun p _ => p = lI r) (fun _ => zPo D ca ad lnM nM L F B A) A
def f_M_formUp_22 (K : Nat) (s0 : Int) (F : zF) (B : zB) : zO := some (s0, F, B)
set_option maxHeartbeats 4000000 in
set_option maxRecDepth 100000 in
theorem b_M_formUp_22 {D : va_G} {ca : Nat → ClassId} {ad : Nat → Int → Nat → Nat} {L : List Nat} {aS vS : Nat → Nat} {A : Nat → Prop} {p : Program} {l : Launch} {e : Env} {s : State} {m : MethodId} {args : Array Value} {below : List Frame} {meth : Method} {c : Code} {K : Nat} {r : Int} {F9 : zF} {B9 : zB} (X : zX D ca L aS vS A p s m args meth c prog_15_method_82_code 1 (Option.some Jvm.ClassFile.FieldType.long) "StaveHouseModel") {s0 : Int} {F : zF} {B : zB} {H : Heap} {locs : List Loc} {ls : Array Slot} (hf : f_M_formUp_22 K s0 F B = some (r, F9, B9)) (hZ : zH D ca ad lnM nM L F B A H) (hS : va_S A s.heap H locs) (hl : lv_has ls 1 []) : W p l e ({ frames := 0, cells := 0, slots := 0, locals := 0 } : Room) s m args below meth c H locs 0 0 (MQ below (Q_M_formUp D ca ad L r F9 B9 A) args s 0 0 A) (F0 m 22 ls [.long (lI s0)]) := by
  obtain ⟨hx, hb, hr, hml, hown, hts, hlk, hK, hA, hL, hX⟩ := id X
  replace hf : (some (s0, F, B)) = some (r, F9, B9) := hf
  cases hf
  exact W.lret hx hb hr (fun t ht hW => ⟨⟨_, (), rfl, rfl, by rw [ht]; exact hZ, va_K.moved hW.alike hK⟩, hS.F ht⟩) hS.2.2 (D_173 W_prog_15_method_82_code_0 22 rfl rfl) hlk

def f_M_formUp (K : Nat) (l0 : Int) (F : zF) (B : zB) : zO := if r32 l0 then (if l0 = 0 then f_M_formUp_22 K 1 F B else (if l0 = 1 then f_M_formUp_22 K 3 F B else f_M_formUp_22 K 7 F B)) else none
set_option maxHeartbeats 4000000 in
set_option maxRecDepth 100000 in
theorem c_M_formUp {l : Launch} {D : va_G} {ca : Nat → ClassId} {ad : Nat → Int → Nat → Nat} {L : List Nat} {aS vS : Nat → Nat} {sz K : Nat}  {l0 : Int} {F F9 : zF} {B B9 : zB} {r : Int} (hf : f_M_formUp K l0 F B = some (r, F9, B9)) : Met l ({ cls := "StaveHouseModel", name := "formUp", desc := "(I)J" } : Jvm.MethodName) (Cond.code ({ cls := "StaveHouseModel", name := "formUp", desc := "(I)J" } : Jvm.MethodName) prog_15_method_82_code 1 (Option.some Jvm.ClassFile.FieldType.long) :: wAll) ({ frames := 0, cells := 0, slots := 0, locals := 0 } : Room) (va_Pc [.int (iI l0)] (zPre D ca ad lnM nM L aS vS F B sz)) (Q_M_formUp D ca ad L r F9 B9 (zA L sz)) 0 0 (zA L sz) := by
  refine zMet (Qc := Q_M_formUp D ca ad L r F9 B9) (lv := [(0, .int (iI l0))]) (by decide) (Nat.le_of_ble_eq_true rfl) rfl (fun A p e s m below meth c ls X hZ hS hl => ?_)
  obtain ⟨hx, hb, hr, hml, hown, hts, hlk, hK, hA, hL, hX⟩ := id X
  replace hf : (if r32 l0 then (if l0 = 0 then f_M_formUp_22 K 1 F B else (if l0 = 1 then f_M_formUp_22 K 3 F B else f_M_formUp_22 K 7 F B)) else none) = some (r, F9, B9) := hf
  refine lv_iload_n hx hb (D_26 W_prog_15_method_82_code_0 0 rfl rfl) rfl (lv_at hl 0 rfl) ?_
  obtain ⟨g1, hf⟩ := gif hf
  refine z0ne (tgt := 8) hx hb g1 (D_154 W_prog_15_method_82_code_0 1 rfl rfl rfl) (by decide) (fun h2 => ?_) (fun h2 => ?_)
  · replace hf := gneg hf h2
    refine lv_iload_n hx hb (D_26 W_prog_15_method_82_code_0 8 rfl rfl) rfl (lv_at hl 0 rfl) ?_
    refine lv_iconst (v := iI 1) hx hb (D_4 W_prog_15_method_82_code_0 9 rfl rfl) rfl ?_
    refine zne (tgt := 19) hx hb g1 (by decide) (D_160 W_prog_15_method_82_code_0 10 rfl rfl rfl) (by decide) (fun h3 => ?_) (fun h3 => ?_)
    · replace hf := gneg hf h3
      refine lv_ldc2 hx hb hown (hts _ k_13_167) (D_20 W_prog_15_method_82_code_0 19 rfl rfl rfl) ?_
      refine W.eq (g2 := F0 m 22 ls [.long (lI 7)]) rfl ?_
      exact b_M_formUp_22 X hf hZ hS (lv_sub hl [] rfl)
    · replace hf := gpos hf h3
      refine lv_ldc2 hx hb hown (hts _ k_13_166) (D_20 W_prog_15_method_82_code_0 13 rfl rfl rfl) ?_
      refine W.eq (g2 := F0 m 16 ls [.long (lI 3)]) rfl ?_
      refine lv_goto (tgt := 22) hx hb (D_167 W_prog_15_method_82_code_0 16 rfl rfl rfl) (by decide) ?_
      exact b_M_formUp_22 X hf hZ hS (lv_sub hl [] rfl)
  · replace hf := gpos hf h2
    refine lv_lconst (v := lI 1) hx hb (D_10 W_prog_15_method_82_code_0 4 rfl rfl) (by decide) ?_
    refine lv_goto (tgt := 22) hx hb (D_167 W_prog_15_method_82_code_0 5 rfl rfl rfl) (by decide) ?_
    exact b_M_formUp_22 X hf hZ hS (lv_sub hl [] rfl)

abbrev Q_M_formDown (D : va_G) (ca : Nat → ClassId) (ad : Nat → Int → Nat → Nat) (L : List Nat) (r : Int) (F : zF) (B : zB) (A : Nat → Prop) : Array Value → State → Outcome → State → Prop := va_Ql (S := Unit) (fun p _ => p = lI r) (fun _ => zPo D ca ad lnM nM L F B A) A
def f_M_formDown (K : Nat) (l0 : Int) (l1 : Int) (F : zF) (B : zB) : zO := some ((zlshl 1 l0) * (zlshl 1 l1), F, B)
set_option maxHeartbeats 4000000 in
set_option maxRecDepth 100000 in
theorem c_M_formDown {l : Launch} {D : va_G} {ca : Nat → ClassId} {ad : Nat → Int → Nat → Nat} {L : List Nat} {aS vS : Nat → Nat} {sz K : Nat}  {l0 : Int} {l1 : Int} {F F9 : zF} {B B9 : zB} {r : Int} (hf : f_M_formDown K l0 l1 F B = some (r, F9, B9)) : Met l ({ cls := "StaveHouseModel", name := "formDown", desc := "(II)J" } : Jvm.MethodName) (Cond.code ({ cls := "StaveHouseModel", name := "formDown", desc := "(II)J" } : Jvm.MethodName) prog_15_method_83_code 2 (Option.some Jvm.ClassFile.FieldType.long) :: wAll) ({ frames := 0, cells := 0, slots := 0, locals := 0 } : Room) (va_Pc [.int (iI l0), .int (iI l1)] (zPre D ca ad lnM nM L aS vS F B sz)) (Q_M_formDown D ca ad L r F9 B9 (zA L sz)) 0 0 (zA L sz) := by
  refine zMet (Qc := Q_M_formDown D ca ad L r F9 B9) (lv := [(0, .int (iI l0)), (1, .int (iI l1))]) (by decide) (Nat.le_of_ble_eq_true rfl) rfl (fun A p e s m below meth c ls X hZ hS hl => ?_)
  obtain ⟨hx, hb, hr, hml, hown, hts, hlk, hK, hA, hL, hX⟩ := id X
  replace hf : (some ((zlshl 1 l0) * (zlshl 1 l1), F, B)) = some (r, F9, B9) := hf
  refine lv_lconst (v := lI 1) hx hb (D_10 W_prog_15_method_83_code_0 0 rfl rfl) (by decide) ?_
  refine lv_iload_n hx hb (D_26 W_prog_15_method_83_code_0 1 rfl rfl) rfl (lv_at hl 0 rfl) ?_
  refine zlshl_r hx hb (D_121 W_prog_15_method_83_code_0 2 rfl rfl) ?_
  refine lv_lconst (v := lI 1) hx hb (D_10 W_prog_15_method_83_code_0 3 rfl rfl) (by decide) ?_
  refine lv_iload_n hx hb (D_27 W_prog_15_method_83_code_0 4 rfl rfl) rfl (lv_at hl 1 rfl) ?_
  refine zlshl_r hx hb (D_121 W_prog_15_method_83_code_0 5 rfl rfl) ?_
  refine zlmul hx hb (D_105 W_prog_15_method_83_code_0 6 rfl rfl) ?_
  cases hf
  exact W.lret hx hb hr (fun t ht hW => ⟨⟨_, (), rfl, rfl, by rw [ht]; exact hZ, va_K.moved hW.alike hK⟩, hS.F ht⟩) hS.2.2 (D_173 W_prog_15_method_83_code_0 7 rfl rfl) hlk

abbrev Q_M_isCompound (D : va_G) (ca : Nat → ClassId) (ad : Nat → Int → Nat → Nat) (L : List Nat) (r : Int) (F : zF) (B : zB) (A : Nat → Prop) : Array Value → State → Outcome → State → Prop := va_Qi (S := Unit) (fun p _ => p = iI r) (fun _ => zPo D ca ad lnM nM L F B A) A
def f_M_isCompound_32 (K : Nat) (s0 : Int) (F : zF) (B : zB) : zO := if (s0 = 0 ∨ s0 = 1) then some (s0, F, B) else none
set_option maxHeartbeats 4000000 in
set_option maxRecDepth 100000 in
theorem b_M_isCompound_32 {D : va_G} {ca : Nat → ClassId} {ad : Nat → Int → Nat → Nat} {L : List Nat} {aS vS : Nat → Nat} {A : Nat → Prop} {p : Program} {l : Launch} {e : Env} {s : State} {m : MethodId} {args : Array Value} {below : List Frame} {meth : Method} {c : Code} {K : Nat} {r : Int} {F9 : zF} {B9 : zB} (X : zX D ca L aS vS A p s m args meth c prog_15_method_77_code 1 (Option.some Jvm.ClassFile.FieldType.boolean) "StaveHouseModel") {s0 : Int} {F : zF} {B : zB} {H : Heap} {locs : List Loc} {ls : Array Slot} (hf : f_M_isCompound_32 K s0 F B = some (r, F9, B9)) (hZ : zH D ca ad lnM nM L F B A H) (hS : va_S A s.heap H locs) (hl : lv_has ls 1 []) : W p l e ({ frames := 0, cells := 0, slots := 0, locals := 0 } : Room) s m args below meth c H locs 0 0 (MQ below (Q_M_isCompound D ca ad L r F9 B9 A) args s 0 0 A) (F0 m 32 ls [.int (iI s0)]) := by
  obtain ⟨hx, hb, hr, hml, hown, hts, hlk, hK, hA, hL, hX⟩ := id X
  replace hf : (if (s0 = 0 ∨ s0 = 1) then some (s0, F, B) else none) = some (r, F9, B9) := hf
  obtain ⟨g8, hf⟩ := gif hf
  cases hf
  exact W.zret hx hb hr (zbool g8) (fun t ht hW => ⟨⟨_, (), rfl, rfl, by rw [ht]; exact hZ, va_K.moved hW.alike hK⟩, hS.F ht⟩) hS.2.2 (D_172 W_prog_15_method_77_code_32 0 rfl rfl) hlk

def f_M_isCompound_31 (K : Nat)  (F : zF) (B : zB) : zO := f_M_isCompound_32 K 0 F B
set_option maxHeartbeats 4000000 in
set_option maxRecDepth 100000 in
theorem b_M_isCompound_31 {D : va_G} {ca : Nat → ClassId} {ad : Nat → Int → Nat → Nat} {L : List Nat} {aS vS : Nat → Nat} {A : Nat → Prop} {p : Program} {l : Launch} {e : Env} {s : State} {m : MethodId} {args : Array Value} {below : List Frame} {meth : Method} {c : Code} {K : Nat} {r : Int} {F9 : zF} {B9 : zB} (X : zX D ca L aS vS A p s m args meth c prog_15_method_77_code 1 (Option.some Jvm.ClassFile.FieldType.boolean) "StaveHouseModel")  {F : zF} {B : zB} {H : Heap} {locs : List Loc} {ls : Array Slot} (hf : f_M_isCompound_31 K  F B = some (r, F9, B9)) (hZ : zH D ca ad lnM nM L F B A H) (hS : va_S A s.heap H locs) (hl : lv_has ls 1 []) : W p l e ({ frames := 0, cells := 0, slots := 0, locals := 0 } : Room) s m args below meth c H locs 0 0 (MQ below (Q_M_isCompound D ca ad L r F9 B9 A) args s 0 0 A) (F0 m 31 ls []) := by
  obtain ⟨hx, hb, hr, hml, hown, hts, hlk, hK, hA, hL, hX⟩ := id X
  replace hf : (f_M_isCompound_32 K 0 F B) = some (r, F9, B9) := hf
  refine lv_iconst (v := iI 0) hx hb (D_3 W_prog_15_method_77_code_0 31 rfl rfl) rfl ?_
  exact b_M_isCompound_32 X hf hZ hS (lv_sub hl [] rfl)

def f_M_isCompound_18 (K : Nat) (l0 : Int) (F : zF) (B : zB) : zO := if 0 ≤ l0 ∧ l0 < 3 then if r32 (zrm (F 13 l0 4) 3) then (if (zrm (F 13 l0 4) 3) = 0 then f_M_isCompound_32 K 1 F B else f_M_isCompound_31 K F B) else none else none
set_option maxHeartbeats 4000000 in
set_option maxRecDepth 100000 in
theorem b_M_isCompound_18 {D : va_G} {ca : Nat → ClassId} {ad : Nat → Int → Nat → Nat} {L : List Nat} {aS vS : Nat → Nat} {A : Nat → Prop} {p : Program} {l : Launch} {e : Env} {s : State} {m : MethodId} {args : Array Value} {below : List Frame} {meth : Method} {c : Code} {K : Nat} {r : Int} {F9 : zF} {B9 : zB} (X : zX D ca L aS vS A p s m args meth c prog_15_method_77_code 1 (Option.some Jvm.ClassFile.FieldType.boolean) "StaveHouseModel") {l0 : Int} {F : zF} {B : zB} {H : Heap} {locs : List Loc} {ls : Array Slot} (hf : f_M_isCompound_18 K l0 F B = some (r, F9, B9)) (hZ : zH D ca ad lnM nM L F B A H) (hS : va_S A s.heap H locs) (hl : lv_has ls 1 [(0, .ref (ad 13 l0 0))]) : W p l e ({ frames := 0, cells := 0, slots := 0, locals := 0 } : Room) s m args below meth c H locs 0 0 (MQ below (Q_M_isCompound D ca ad L r F9 B9 A) args s 0 0 A) (F0 m 18 ls []) := by
  obtain ⟨hx, hb, hr, hml, hown, hts, hlk, hK, hA, hL, hX⟩ := id X
  replace hf : (if 0 ≤ l0 ∧ l0 < 3 then if r32 (zrm (F 13 l0 4) 3) then (if (zrm (F 13 l0 4) 3) = 0 then f_M_isCompound_32 K 1 F B else f_M_isCompound_31 K F B) else none else none) = some (r, F9, B9) := hf
  refine lv_aload_n hx hb (D_42 W_prog_15_method_77_code_0 18 rfl rfl) rfl (lv_at hl 0 rfl) ?_
  obtain ⟨g5, hf⟩ := gif hf
  refine zget (ci := 13) (C := RX13) (T := TX13) (v := .int (iI (F 13 l0 4))) (k := 4) hx hb hts inW_13 hown hK hZ g5.1 g5.2 rfl (by decide) k_9_129 rfl (D_180 W_prog_15_method_77_code_0 19 rfl rfl rfl) ?_
  refine lv_iconst (v := iI 3) hx hb (D_6 W_prog_15_method_77_code_0 22 rfl rfl) rfl ?_
  refine zrm_r hx hb (by decide) (D_112 W_prog_15_method_77_code_0 23 rfl rfl) ?_
  obtain ⟨g6, hf⟩ := gif hf
  refine z0ne (tgt := 31) hx hb g6 (D_154 W_prog_15_method_77_code_0 24 rfl rfl rfl) (by decide) (fun h7 => ?_) (fun h7 => ?_)
  · replace hf := gneg hf h7
    exact b_M_isCompound_31 X hf hZ hS (lv_sub hl [] rfl)
  · replace hf := gpos hf h7
    refine lv_iconst (v := iI 1) hx hb (D_4 W_prog_15_method_77_code_0 27 rfl rfl) rfl ?_
    refine lv_goto (tgt := 32) hx hb (D_167 W_prog_15_method_77_code_0 28 rfl rfl rfl) (by decide) ?_
    exact b_M_isCompound_32 X hf hZ hS (lv_sub hl [] rfl)

def f_M_isCompound (K : Nat) (l0 : Int) (F : zF) (B : zB) : zO := if 0 ≤ l0 ∧ l0 < 3 then if r32 (F 13 l0 5) then (if (F 13 l0 5) = 8 then f_M_isCompound_18 K l0 F B else (if (F 13 l0 5) = 16 then f_M_isCompound_18 K l0 F B else f_M_isCompound_31 K F B)) else none else none
set_option maxHeartbeats 4000000 in
set_option maxRecDepth 100000 in
theorem c_M_isCompound {l : Launch} {D : va_G} {ca : Nat → ClassId} {ad : Nat → Int → Nat → Nat} {L : List Nat} {aS vS : Nat → Nat} {sz K : Nat}  {l0 : Int} {F F9 : zF} {B B9 : zB} {r : Int} (hf : f_M_isCompound K l0 F B = some (r, F9, B9)) : Met l ({ cls := "StaveHouseModel", name := "isCompound", desc := "(LStaveHouseModel$Piece;)Z" } : Jvm.MethodName) (Cond.code ({ cls := "StaveHouseModel", name := "isCompound", desc := "(LStaveHouseModel$Piece;)Z" } : Jvm.MethodName) prog_15_method_77_code 1 (Option.some Jvm.ClassFile.FieldType.boolean) :: wAll) ({ frames := 0, cells := 0, slots := 0, locals := 0 } : Room) (va_Pc [.ref (ad 13 l0 0)] (zPre D ca ad lnM nM L aS vS F B sz)) (Q_M_isCompound D ca ad L r F9 B9 (zA L sz)) 0 0 (zA L sz) := by
  refine zMet (Qc := Q_M_isCompound D ca ad L r F9 B9) (lv := [(0, .ref (ad 13 l0 0))]) (by decide) (Nat.le_of_ble_eq_true rfl) rfl (fun A p e s m below meth c ls X hZ hS hl => ?_)
  obtain ⟨hx, hb, hr, hml, hown, hts, hlk, hK, hA, hL, hX⟩ := id X
  replace hf : (if 0 ≤ l0 ∧ l0 < 3 then if r32 (F 13 l0 5) then (if (F 13 l0 5) = 8 then f_M_isCompound_18 K l0 F B else (if (F 13 l0 5) = 16 then f_M_isCompound_18 K l0 F B else f_M_isCompound_31 K F B)) else none else none) = some (r, F9, B9) := hf
  refine lv_aload_n hx hb (D_42 W_prog_15_method_77_code_0 0 rfl rfl) rfl (lv_at hl 0 rfl) ?_
  obtain ⟨g1, hf⟩ := gif hf
  refine zget (ci := 13) (C := RX13) (T := TX13) (v := .int (iI (F 13 l0 5))) (k := 5) hx hb hts inW_13 hown hK hZ g1.1 g1.2 rfl (by decide) k_9_130 rfl (D_180 W_prog_15_method_77_code_0 1 rfl rfl rfl) ?_
  refine lv_bipush (v := iI 8) hx hb (D_16 W_prog_15_method_77_code_0 4 rfl rfl rfl) (by decide) ?_
  obtain ⟨g2, hf⟩ := gif hf
  refine zeq (tgt := 18) hx hb g2 (by decide) (D_159 W_prog_15_method_77_code_0 6 rfl rfl rfl) (by decide) (fun h3 => ?_) (fun h3 => ?_)
  · replace hf := gpos hf h3
    exact b_M_isCompound_18 X hf hZ hS (lv_sub hl [0] rfl)
  · replace hf := gneg hf h3
    refine lv_aload_n hx hb (D_42 W_prog_15_method_77_code_0 9 rfl rfl) rfl (lv_at hl 0 rfl) ?_
    refine zget (ci := 13) (C := RX13) (T := TX13) (v := .int (iI (F 13 l0 5))) (k := 5) hx hb hts inW_13 hown hK hZ g1.1 g1.2 rfl (by decide) k_9_130 rfl (D_180 W_prog_15_method_77_code_0 10 rfl rfl rfl) ?_
    refine lv_bipush (v := iI 16) hx hb (D_16 W_prog_15_method_77_code_0 13 rfl rfl rfl) (by decide) ?_
    refine zne (tgt := 31) hx hb g2 (by decide) (D_160 W_prog_15_method_77_code_0 15 rfl rfl rfl) (by decide) (fun h4 => ?_) (fun h4 => ?_)
    · replace hf := gneg hf h4
      exact b_M_isCompound_31 X hf hZ hS (lv_sub hl [] rfl)
    · replace hf := gpos hf h4
      exact b_M_isCompound_18 X hf hZ hS (lv_sub hl [0] rfl)

abbrev Q_M_isMultiple (D : va_G) (ca : Nat → ClassId) (ad : Nat → Int → Nat → Nat) (L : List Nat) (r : Int) (F : zF) (B : zB) (A : Nat → Prop) : Array Value → State → Outcome → State → Prop := va_Qi (S := Unit) (fun p _ => p = iI r) (fun _ => zPo D ca ad lnM nM L F B A) A
def f_M_isMultiple_19 (K : Nat) (s0 : Int) (F : zF) (B : zB) : zO := if (s0 = 0 ∨ s0 = 1) then some (s0, F, B) else none
set_option maxHeartbeats 4000000 in
set_option maxRecDepth 100000 in
theorem b_M_isMultiple_19 {D : va_G} {ca : Nat → ClassId} {ad : Nat → Int → Nat → Nat} {L : List Nat} {aS vS : Nat → Nat} {A : Nat → Prop} {p : Program} {l : Launch} {e : Env} {s : State} {m : MethodId} {args : Array Value} {below : List Frame} {meth : Method} {c : Code} {K : Nat} {r : Int} {F9 : zF} {B9 : zB} (X : zX D ca L aS vS A p s m args meth c prog_15_method_8_code 8 (Option.some Jvm.ClassFile.FieldType.boolean) "StaveHouseModel") {s0 : Int} {F : zF} {B : zB} {H : Heap} {locs : List Loc} {ls : Array Slot} (hf : f_M_isMultiple_19 K s0 F B = some (r, F9, B9)) (hZ : zH D ca ad lnM nM L F B A H) (hS : va_S A s.heap H locs) (hl : lv_has ls 8 []) : W p l e ({ frames := 0, cells := 0, slots := 0, locals := 0 } : Room) s m args below meth c H locs 0 0 (MQ below (Q_M_isMultiple D ca ad L r F9 B9 A) args s 0 0 A) (F0 m 19 ls [.int (iI s0)]) := by
  obtain ⟨hx, hb, hr, hml, hown, hts, hlk, hK, hA, hL, hX⟩ := id X
  replace hf : (if (s0 = 0 ∨ s0 = 1) then some (s0, F, B) else none) = some (r, F9, B9) := hf
  obtain ⟨g4, hf⟩ := gif hf
  cases hf
  exact W.zret hx hb hr (zbool g4) (fun t ht hW => ⟨⟨_, (), rfl, rfl, by rw [ht]; exact hZ, va_K.moved hW.alike hK⟩, hS.F ht⟩) hS.2.2 (D_172 W_prog_15_method_8_code_0 19 rfl rfl) hlk

def f_M_isMultiple (K : Nat) (l0 : Int) (l2 : Int) (l4 : Int) (l6 : Int) (F : zF) (B : zB) : zO := if ¬ lI (l2 * l4) = 0 then if r64 (zlrm (l0 * l6) (l2 * l4)) then (if (zcmp (zlrm (l0 * l6) (l2 * l4)) 0) = 0 then f_M_isMultiple_19 K 1 F B else f_M_isMultiple_19 K 0 F B) else none else none
set_option maxHeartbeats 4000000 in
set_option maxRecDepth 100000 in
theorem c_M_isMultiple {l : Launch} {D : va_G} {ca : Nat → ClassId} {ad : Nat → Int → Nat → Nat} {L : List Nat} {aS vS : Nat → Nat} {sz K : Nat}  {l0 : Int} {l2 : Int} {l4 : Int} {l6 : Int} {F F9 : zF} {B B9 : zB} {r : Int} (hf : f_M_isMultiple K l0 l2 l4 l6 F B = some (r, F9, B9)) : Met l ({ cls := "StaveHouseModel", name := "isMultiple", desc := "(JJJJ)Z" } : Jvm.MethodName) (Cond.code ({ cls := "StaveHouseModel", name := "isMultiple", desc := "(JJJJ)Z" } : Jvm.MethodName) prog_15_method_8_code 8 (Option.some Jvm.ClassFile.FieldType.boolean) :: wAll) ({ frames := 0, cells := 0, slots := 0, locals := 0 } : Room) (va_Pc [.long (lI l0), .long (lI l2), .long (lI l4), .long (lI l6)] (zPre D ca ad lnM nM L aS vS F B sz)) (Q_M_isMultiple D ca ad L r F9 B9 (zA L sz)) 0 0 (zA L sz) := by
  refine zMet (Qc := Q_M_isMultiple D ca ad L r F9 B9) (lv := [(0, .long (lI l0)), (2, .long (lI l2)), (4, .long (lI l4)), (6, .long (lI l6))]) (by decide) (Nat.le_of_ble_eq_true rfl) rfl (fun A p e s m below meth c ls X hZ hS hl => ?_)
  obtain ⟨hx, hb, hr, hml, hown, hts, hlk, hK, hA, hL, hX⟩ := id X
  replace hf : (if ¬ lI (l2 * l4) = 0 then if r64 (zlrm (l0 * l6) (l2 * l4)) then (if (zcmp (zlrm (l0 * l6) (l2 * l4)) 0) = 0 then f_M_isMultiple_19 K 1 F B else f_M_isMultiple_19 K 0 F B) else none else none) = some (r, F9, B9) := hf
  refine lv_lload_n hx hb (D_30 W_prog_15_method_8_code_0 0 rfl rfl) rfl (lv_at hl 0 rfl) ?_
  refine lv_lload hx hb (D_22 W_prog_15_method_8_code_0 1 rfl rfl) (lv_at hl 3 rfl) ?_
  refine zlmul hx hb (D_105 W_prog_15_method_8_code_0 3 rfl rfl) ?_
  refine lv_lload_n hx hb (D_32 W_prog_15_method_8_code_0 4 rfl rfl) rfl (lv_at hl 1 rfl) ?_
  refine lv_lload hx hb (D_22 W_prog_15_method_8_code_0 5 rfl rfl) (lv_at hl 2 rfl) ?_
  refine zlmul hx hb (D_105 W_prog_15_method_8_code_0 7 rfl rfl) ?_
  obtain ⟨g1, hf⟩ := gif hf
  refine zlrm_r hx hb g1 (D_113 W_prog_15_method_8_code_0 8 rfl rfl) ?_
  refine lv_lconst (v := lI 0) hx hb (D_9 W_prog_15_method_8_code_0 9 rfl rfl) (by decide) ?_
  obtain ⟨g2, hf⟩ := gif hf
  refine zcmp_r hx hb g2 (by decide) (D_148 W_prog_15_method_8_code_0 10 rfl rfl) ?_
  refine z0ne (tgt := 18) hx hb zcmp_32 (D_154 W_prog_15_method_8_code_0 11 rfl rfl rfl) (by decide) (fun h3 => ?_) (fun h3 => ?_)
  · replace hf := gneg hf h3
    refine lv_iconst (v := iI 0) hx hb (D_3 W_prog_15_method_8_code_0 18 rfl rfl) rfl ?_
    exact b_M_isMultiple_19 X hf hZ hS (lv_sub hl [] rfl)
  · replace hf := gpos hf h3
    refine lv_iconst (v := iI 1) hx hb (D_4 W_prog_15_method_8_code_0 14 rfl rfl) rfl ?_
    refine lv_goto (tgt := 19) hx hb (D_167 W_prog_15_method_8_code_0 15 rfl rfl rfl) (by decide) ?_
    exact b_M_isMultiple_19 X hf hZ hS (lv_sub hl [] rfl)

abbrev Q_M_isBetween (D : va_G) (ca : Nat → ClassId) (ad : Nat → Int → Nat → Nat) (L : List Nat) (r : Int) (F : zF) (B : zB) (A : Nat → Prop) : Array Value → State → Outcome → State → Prop := va_Qi (S := Unit) (fun p _ => p = iI r) (fun _ => zPo D ca ad lnM nM L F B A) A
def f_M_isBetween_35 (K : Nat) (s0 : Int) (F : zF) (B : zB) : zO := if (s0 = 0 ∨ s0 = 1) then some (s0, F, B) else none
set_option maxHeartbeats 4000000 in
set_option maxRecDepth 100000 in
theorem b_M_isBetween_35 {D : va_G} {ca : Nat → ClassId} {ad : Nat → Int → Nat → Nat} {L : List Nat} {aS vS : Nat → Nat} {A : Nat → Prop} {p : Program} {l : Launch} {e : Env} {s : State} {m : MethodId} {args : Array Value} {below : List Frame} {meth : Method} {c : Code} {K : Nat} {r : Int} {F9 : zF} {B9 : zB} (X : zX D ca L aS vS A p s m args meth c prog_15_method_80_code 14 (Option.some Jvm.ClassFile.FieldType.boolean) "StaveHouseModel") {s0 : Int} {F : zF} {B : zB} {H : Heap} {locs : List Loc} {ls : Array Slot} (hf : f_M_isBetween_35 K s0 F B = some (r, F9, B9)) (hZ : zH D ca ad lnM nM L F B A H) (hS : va_S A s.heap H locs) (hl : lv_has ls 14 []) : W p l e ({ frames := 2, cells := 0, slots := 0, locals := 62 } : Room) s m args below meth c H locs 0 0 (MQ below (Q_M_isBetween D ca ad L r F9 B9 A) args s 0 0 A) (F0 m 35 ls [.int (iI s0)]) := by
  obtain ⟨hx, hb, hr, hml, hown, hts, hlk, hK, hA, hL, hX⟩ := id X
  replace hf : (if (s0 = 0 ∨ s0 = 1) then some (s0, F, B) else none) = some (r, F9, B9) := hf
  obtain ⟨g5, hf⟩ := gif hf
  cases hf
  exact W.zret hx hb hr (zbool g5) (fun t ht hW => ⟨⟨_, (), rfl, rfl, by rw [ht]; exact hZ, va_K.moved hW.alike hK⟩, hS.F ht⟩) hS.2.2 (D_172 W_prog_15_method_80_code_32 3 rfl rfl) hlk

def f_M_isBetween (K : Nat) (l0 : Int) (l2 : Int) (l4 : Int) (l6 : Int) (l8 : Int) (l10 : Int) (F : zF) (B : zB) : zO := zbind (f_M_often K l0 l2 l8 l10 F B) (fun r1 F1 B1 => zbind (f_M_compare K ((r1 + 1) * l8) l10 l4 l6 F1 B1) (fun r2 F2 B2 => if r32 r2 then (if 0 ≤ r2 then f_M_isBetween_35 K 0 F2 B2 else f_M_isBetween_35 K 1 F2 B2) else none))
set_option maxHeartbeats 4000000 in
set_option maxRecDepth 100000 in
theorem c_M_isBetween {l : Launch} {D : va_G} {ca : Nat → ClassId} {ad : Nat → Int → Nat → Nat} {L : List Nat} {aS vS : Nat → Nat} {sz K : Nat}  {l0 : Int} {l2 : Int} {l4 : Int} {l6 : Int} {l8 : Int} {l10 : Int} {F F9 : zF} {B B9 : zB} {r : Int} (hf : f_M_isBetween K l0 l2 l4 l6 l8 l10 F B = some (r, F9, B9)) : Met l ({ cls := "StaveHouseModel", name := "isBetween", desc := "(JJJJJJ)Z" } : Jvm.MethodName) (Cond.code ({ cls := "StaveHouseModel", name := "isBetween", desc := "(JJJJJJ)Z" } : Jvm.MethodName) prog_15_method_80_code 14 (Option.some Jvm.ClassFile.FieldType.boolean) :: wAll) ({ frames := 2, cells := 0, slots := 0, locals := 62 } : Room) (va_Pc [.long (lI l0), .long (lI l2), .long (lI l4), .long (lI l6), .long (lI l8), .long (lI l10)] (zPre D ca ad lnM nM L aS vS F B sz)) (Q_M_isBetween D ca ad L r F9 B9 (zA L sz)) 0 0 (zA L sz) := by
  refine zMet (Qc := Q_M_isBetween D ca ad L r F9 B9) (lv := [(0, .long (lI l0)), (2, .long (lI l2)), (4, .long (lI l4)), (6, .long (lI l6)), (8, .long (lI l8)), (10, .long (lI l10))]) (by decide) (Nat.le_of_ble_eq_true rfl) rfl (fun A p e s m below meth c ls X hZ hS hl => ?_)
  obtain ⟨hx, hb, hr, hml, hown, hts, hlk, hK, hA, hL, hX⟩ := id X
  replace hf : (zbind (f_M_often K l0 l2 l8 l10 F B) (fun r1 F1 B1 => zbind (f_M_compare K ((r1 + 1) * l8) l10 l4 l6 F1 B1) (fun r2 F2 B2 => if r32 r2 then (if 0 ≤ r2 then f_M_isBetween_35 K 0 F2 B2 else f_M_isBetween_35 K 1 F2 B2) else none))) = some (r, F9, B9) := hf
  refine lv_lload_n hx hb (D_30 W_prog_15_method_80_code_0 0 rfl rfl) rfl (lv_at hl 0 rfl) ?_
  refine lv_lload_n hx hb (D_32 W_prog_15_method_80_code_0 1 rfl rfl) rfl (lv_at hl 1 rfl) ?_
  refine lv_lload hx hb (D_22 W_prog_15_method_80_code_0 2 rfl rfl) (lv_at hl 4 rfl) ?_
  refine lv_lload hx hb (D_22 W_prog_15_method_80_code_0 4 rfl rfl) (lv_at hl 5 rfl) ?_
  obtain ⟨r1, F1, B1, hc1, hf⟩ := gbind hf
  refine va_calll (va_runS (As := [.long (lI l0), .long (lI l2), .long (lI l8), .long (lI l10)]) (rest := []) ⟨hx, hb, hml, hown, hts⟩ (c_M_often (l := l) hc1) (va_cwS 4 hts (gdS k_13_144 k_13_145 k_1_9 k_13_146) rfl rfl rfl (by decide +kernel) ⟨Nat.le_of_ble_eq_true rfl, Nat.le_of_ble_eq_true rfl⟩) (zPS X hZ hS [.long (lI l0), .long (lI l2), .long (lI l8), .long (lI l10)]) rfl rfl hl.1 rfl (lv_room (Nat.le_of_ble_eq_true rfl)) (D_184 W_prog_15_method_80_code_0 6 rfl rfl rfl) ⟨Nat.le_of_ble_eq_true rfl, Nat.le_of_ble_eq_true rfl⟩) hS (fun q _ h => zAin X hS q h) (zAin X hS) (fun p1 u1 t1 H1 locs1 ht1 hv1 hw1 hB1 hz1 hk1 hS1 => ?_)
  have hZ1 := zBack X ht1 hB1
  subst hw1
  refine lv_lconst (v := lI 1) hx hb (D_10 W_prog_15_method_80_code_0 9 rfl rfl) (by decide) ?_
  refine zladd hx hb (D_97 W_prog_15_method_80_code_0 10 rfl rfl) ?_
  refine lv_lstore (lv' := [(12, .long (lI (r1 + 1))), (0, .long (lI l0)), (2, .long (lI l2)), (4, .long (lI l4)), (6, .long (lI l6)), (8, .long (lI l8)), (10, .long (lI l10))]) hx hb (D_55 W_prog_15_method_80_code_0 11 rfl rfl) hl (by decide) rfl (fun ls hl => ?_)
  refine lv_lload hx hb (D_22 W_prog_15_method_80_code_0 13 rfl rfl) (lv_at hl 0 rfl) ?_
  refine lv_lload hx hb (D_22 W_prog_15_method_80_code_0 15 rfl rfl) (lv_at hl 5 rfl) ?_
  refine zlmul hx hb (D_105 W_prog_15_method_80_code_0 17 rfl rfl) ?_
  refine lv_lload hx hb (D_22 W_prog_15_method_80_code_0 18 rfl rfl) (lv_at hl 6 rfl) ?_
  refine lv_lload hx hb (D_22 W_prog_15_method_80_code_0 20 rfl rfl) (lv_at hl 3 rfl) ?_
  refine lv_lload hx hb (D_22 W_prog_15_method_80_code_0 22 rfl rfl) (lv_at hl 4 rfl) ?_
  obtain ⟨r2, F2, B2, hc2, hf⟩ := gbind hf
  refine va_calli (va_runS (As := [.long (lI ((r1 + 1) * l8)), .long (lI l10), .long (lI l4), .long (lI l6)]) (rest := []) ⟨hx, hb, hml, hown, hts⟩ (c_M_compare (l := l) hc2) (va_cwS 4 hts (gdS k_13_104 k_13_105 k_1_9 k_13_106) rfl rfl rfl (by decide +kernel) ⟨Nat.le_of_ble_eq_true rfl, Nat.le_of_ble_eq_true rfl⟩) (zPS X hZ1 hS1 [.long (lI ((r1 + 1) * l8)), .long (lI l10), .long (lI l4), .long (lI l6)]) rfl rfl hl.1 rfl (lv_room (Nat.le_of_ble_eq_true rfl)) (D_184 W_prog_15_method_80_code_0 24 rfl rfl rfl) ⟨Nat.le_of_ble_eq_true rfl, Nat.le_of_ble_eq_true rfl⟩) hS1 (fun q _ h => zAin X hS1 q h) (zAin X hS1) (fun p2 u2 t2 H2 locs2 ht2 hv2 hw2 hB2 hz2 hk2 hS2 => ?_)
  have hZ2 := zBack X ht2 hB2
  subst hw2
  obtain ⟨g3, hf⟩ := gif hf
  refine z0ge (tgt := 34) hx hb g3 (D_156 W_prog_15_method_80_code_0 27 rfl rfl rfl) (by decide) (fun h4 => ?_) (fun h4 => ?_)
  · replace hf := gpos hf h4
    refine lv_iconst (v := iI 0) hx hb (D_3 W_prog_15_method_80_code_32 2 rfl rfl) rfl ?_
    exact b_M_isBetween_35 X hf hZ2 hS2 (lv_sub hl [] rfl)
  · replace hf := gneg hf h4
    refine lv_iconst (v := iI 1) hx hb (D_4 W_prog_15_method_80_code_0 30 rfl rfl) rfl ?_
    refine lv_goto (tgt := 35) hx hb (D_167 W_prog_15_method_80_code_0 31 rfl rfl rfl) (by decide) ?_
    exact b_M_isBetween_35 X hf hZ2 hS2 (lv_sub hl [] rfl)

abbrev Q_M_sounding (D : va_G) (ca : Nat → ClassId) (ad : Nat → Int → Nat → Nat) (L : List Nat) (r : Int) (F : zF) (B : zB) (A : Nat → Prop) : Array Value → State → Outcome → State → Prop := va_Qi (S := Unit) (fun p _ => p = iI r) (fun _ => zPo D ca ad lnM nM L F B A) A
def f_M_sounding_43 (K : Nat) (s0 : Int) (F : zF) (B : zB) : zO := some (s0, F, B)
set_option maxHeartbeats 4000000 in
set_option maxRecDepth 100000 in
theorem b_M_sounding_43 {D : va_G} {ca : Nat → ClassId} {ad : Nat → Int → Nat → Nat} {L : List Nat} {aS vS : Nat → Nat} {A : Nat → Prop} {p : Program} {l : Launch} {e : Env} {s : State} {m : MethodId} {args : Array Value} {below : List Frame} {meth : Method} {c : Code} {K : Nat} {r : Int} {F9 : zF} {B9 : zB} (X : zX D ca L aS vS A p s m args meth c prog_15_method_90_code 4 (Option.some Jvm.ClassFile.FieldType.int) "StaveHouseModel") {s0 : Int} {F : zF} {B : zB} {H : Heap} {locs : List Loc} {ls : Array Slot} (hf : f_M_sounding_43 K s0 F B = some (r, F9, B9)) (hZ : zH D ca ad lnM nM L F B A H) (hS : va_S A s.heap H locs) (hl : lv_has ls 4 []) : W p l e ({ frames := 0, cells := 0, slots := 0, locals := 0 } : Room) s m args below meth c H locs 0 0 (MQ below (Q_M_sounding D ca ad L r F9 B9 A) args s 0 0 A) (F0 m 43 ls [.int (iI s0)]) := by
  obtain ⟨hx, hb, hr, hml, hown, hts, hlk, hK, hA, hL, hX⟩ := id X
  replace hf : (some (s0, F, B)) = some (r, F9, B9) := hf
  cases hf
  exact W.iret hx hb hr (fun t ht hW => ⟨⟨_, (), rfl, rfl, by rw [ht]; exact hZ, va_K.moved hW.alike hK⟩, hS.F ht⟩) hS.2.2 (D_172 W_prog_15_method_90_code_32 11 rfl rfl) hlk

def f_M_sounding_32 (K : Nat)  (F : zF) (B : zB) : zO := f_M_sounding_43 K (-1) F B
set_option maxHeartbeats 4000000 in
set_option maxRecDepth 100000 in
theorem b_M_sounding_32 {D : va_G} {ca : Nat → ClassId} {ad : Nat → Int → Nat → Nat} {L : List Nat} {aS vS : Nat → Nat} {A : Nat → Prop} {p : Program} {l : Launch} {e : Env} {s : State} {m : MethodId} {args : Array Value} {below : List Frame} {meth : Method} {c : Code} {K : Nat} {r : Int} {F9 : zF} {B9 : zB} (X : zX D ca L aS vS A p s m args meth c prog_15_method_90_code 4 (Option.some Jvm.ClassFile.FieldType.int) "StaveHouseModel")  {F : zF} {B : zB} {H : Heap} {locs : List Loc} {ls : Array Slot} (hf : f_M_sounding_32 K  F B = some (r, F9, B9)) (hZ : zH D ca ad lnM nM L F B A H) (hS : va_S A s.heap H locs) (hl : lv_has ls 4 []) : W p l e ({ frames := 0, cells := 0, slots := 0, locals := 0 } : Room) s m args below meth c H locs 0 0 (MQ below (Q_M_sounding D ca ad L r F9 B9 A) args s 0 0 A) (F0 m 32 ls []) := by
  obtain ⟨hx, hb, hr, hml, hown, hts, hlk, hK, hA, hL, hX⟩ := id X
  replace hf : (f_M_sounding_43 K (-1) F B) = some (r, F9, B9) := hf
  refine lv_iconst (v := iI (-1)) hx hb (D_2 W_prog_15_method_90_code_32 0 rfl rfl) rfl ?_
  refine lv_goto (tgt := 43) hx hb (D_167 W_prog_15_method_90_code_32 1 rfl rfl rfl) (by decide) ?_
  exact b_M_sounding_43 X hf hZ hS (lv_sub hl [] rfl)

def f_M_sounding (K : Nat) (l0 : Int) (l1 : Int) (l2 : Int) (F : zF) (B : zB) : zO := if 0 ≤ l0 ∧ l0 < 3 then if 0 ≤ ((800 * l1) + l2) ∧ ((800 * l1) + l2) < 3200 then if r32 (B 13 l0 30 ((800 * l1) + l2)) then (if (B 13 l0 30 ((800 * l1) + l2)) < 0 then f_M_sounding_32 K F B else if 0 ≤ ((1000 * l1) + (B 13 l0 30 ((800 * l1) + l2))) ∧ ((1000 * l1) + (B 13 l0 30 ((800 * l1) + l2))) < 4000 then if r32 (B 13 l0 21 ((1000 * l1) + (B 13 l0 30 ((800 * l1) + l2)))) then (if (B 13 l0 21 ((1000 * l1) + (B 13 l0 30 ((800 * l1) + l2)))) = 0 then f_M_sounding_32 K F B else f_M_sounding_43 K ((1000 * l1) + (B 13 l0 30 ((800 * l1) + l2))) F B) else none else none) else none else none else none
set_option maxHeartbeats 4000000 in
set_option maxRecDepth 100000 in
theorem c_M_sounding {l : Launch} {D : va_G} {ca : Nat → ClassId} {ad : Nat → Int → Nat → Nat} {L : List Nat} {aS vS : Nat → Nat} {sz K : Nat}  {l0 : Int} {l1 : Int} {l2 : Int} {F F9 : zF} {B B9 : zB} {r : Int} (hf : f_M_sounding K l0 l1 l2 F B = some (r, F9, B9)) : Met l ({ cls := "StaveHouseModel", name := "sounding", desc := "(LStaveHouseModel$Piece;II)I" } : Jvm.MethodName) (Cond.code ({ cls := "StaveHouseModel", name := "sounding", desc := "(LStaveHouseModel$Piece;II)I" } : Jvm.MethodName) prog_15_method_90_code 4 (Option.some Jvm.ClassFile.FieldType.int) :: wAll) ({ frames := 0, cells := 0, slots := 0, locals := 0 } : Room) (va_Pc [.ref (ad 13 l0 0), .int (iI l1), .int (iI l2)] (zPre D ca ad lnM nM L aS vS F B sz)) (Q_M_sounding D ca ad L r F9 B9 (zA L sz)) 0 0 (zA L sz) := by
  refine zMet (Qc := Q_M_sounding D ca ad L r F9 B9) (lv := [(0, .ref (ad 13 l0 0)), (1, .int (iI l1)), (2, .int (iI l2))]) (by decide) (Nat.le_of_ble_eq_true rfl) rfl (fun A p e s m below meth c ls X hZ hS hl => ?_)
  obtain ⟨hx, hb, hr, hml, hown, hts, hlk, hK, hA, hL, hX⟩ := id X
  replace hf : (if 0 ≤ l0 ∧ l0 < 3 then if 0 ≤ ((800 * l1) + l2) ∧ ((800 * l1) + l2) < 3200 then if r32 (B 13 l0 30 ((800 * l1) + l2)) then (if (B 13 l0 30 ((800 * l1) + l2)) < 0 then f_M_sounding_32 K F B else if 0 ≤ ((1000 * l1) + (B 13 l0 30 ((800 * l1) + l2))) ∧ ((1000 * l1) + (B 13 l0 30 ((800 * l1) + l2))) < 4000 then if r32 (B 13 l0 21 ((1000 * l1) + (B 13 l0 30 ((800 * l1) + l2)))) then (if (B 13 l0 21 ((1000 * l1) + (B 13 l0 30 ((800 * l1) + l2)))) = 0 then f_M_sounding_32 K F B else f_M_sounding_43 K ((1000 * l1) + (B 13 l0 30 ((800 * l1) + l2))) F B) else none else none) else none else none else none) = some (r, F9, B9) := hf
  refine lv_aload_n hx hb (D_42 W_prog_15_method_90_code_0 0 rfl rfl) rfl (lv_at hl 0 rfl) ?_
  obtain ⟨g1, hf⟩ := gif hf
  refine zget (ci := 13) (C := RX13) (T := TX13) (v := .ref (ad 13 l0 (30 + 1))) (k := 30) hx hb hts inW_13 hown hK hZ g1.1 g1.2 rfl (by decide) k_9_178 rfl (D_180 W_prog_15_method_90_code_0 1 rfl rfl rfl) ?_
  refine lv_sipush (v := iI 800) hx hb (D_17 W_prog_15_method_90_code_0 4 rfl rfl rfl) (by decide) ?_
  refine lv_iload_n hx hb (D_27 W_prog_15_method_90_code_0 7 rfl rfl) rfl (lv_at hl 1 rfl) ?_
  refine zmul hx hb (D_104 W_prog_15_method_90_code_0 8 rfl rfl) ?_
  refine lv_iload_n hx hb (D_28 W_prog_15_method_90_code_0 9 rfl rfl) rfl (lv_at hl 2 rfl) ?_
  refine zadd hx hb (D_96 W_prog_15_method_90_code_0 10 rfl rfl) ?_
  obtain ⟨g2, hf⟩ := gif hf
  refine zald (ci := 13) (k := 30) hx hb hK rfl hZ g1.1 g1.2 rfl (Nat.le_of_ble_eq_true rfl) g2.1 g2.2 (D_46 W_prog_15_method_90_code_0 11 rfl rfl) ?_
  refine lv_istore_n (lv' := [(3, .int (iI (B 13 l0 30 ((800 * l1) + l2)))), (0, .ref (ad 13 l0 0)), (1, .int (iI l1)), (2, .int (iI l2))]) hx hb (D_62 W_prog_15_method_90_code_0 12 rfl rfl) rfl hl (by decide) rfl (fun ls hl => ?_)
  refine lv_iload_n hx hb (D_29 W_prog_15_method_90_code_0 13 rfl rfl) rfl (lv_at hl 0 rfl) ?_
  obtain ⟨g3, hf⟩ := gif hf
  refine z0lt (tgt := 32) hx hb g3 (D_155 W_prog_15_method_90_code_0 14 rfl rfl rfl) (by decide) (fun h4 => ?_) (fun h4 => ?_)
  · replace hf := gpos hf h4
    exact b_M_sounding_32 X hf hZ hS (lv_sub hl [] rfl)
  · replace hf := gneg hf h4
    refine lv_aload_n hx hb (D_42 W_prog_15_method_90_code_0 17 rfl rfl) rfl (lv_at hl 1 rfl) ?_
    refine zget (ci := 13) (C := RX13) (T := TX13) (v := .ref (ad 13 l0 (21 + 1))) (k := 21) hx hb hts inW_13 hown hK hZ g1.1 g1.2 rfl (by decide) k_9_160 rfl (D_180 W_prog_15_method_90_code_0 18 rfl rfl rfl) ?_
    refine lv_sipush (v := iI 1000) hx hb (D_17 W_prog_15_method_90_code_0 21 rfl rfl rfl) (by decide) ?_
    refine lv_iload_n hx hb (D_27 W_prog_15_method_90_code_0 24 rfl rfl) rfl (lv_at hl 2 rfl) ?_
    refine zmul hx hb (D_104 W_prog_15_method_90_code_0 25 rfl rfl) ?_
    refine lv_iload_n hx hb (D_29 W_prog_15_method_90_code_0 26 rfl rfl) rfl (lv_at hl 0 rfl) ?_
    refine zadd hx hb (D_96 W_prog_15_method_90_code_0 27 rfl rfl) ?_
    obtain ⟨g5, hf⟩ := gif hf
    refine zald (ci := 13) (k := 21) hx hb hK rfl hZ g1.1 g1.2 rfl (Nat.le_of_ble_eq_true rfl) g5.1 g5.2 (D_46 W_prog_15_method_90_code_0 28 rfl rfl) ?_
    obtain ⟨g6, hf⟩ := gif hf
    refine z0ne (tgt := 36) hx hb g6 (D_154 W_prog_15_method_90_code_0 29 rfl rfl rfl) (by decide) (fun h7 => ?_) (fun h7 => ?_)
    · replace hf := gneg hf h7
      refine lv_sipush (v := iI 1000) hx hb (D_17 W_prog_15_method_90_code_32 4 rfl rfl rfl) (by decide) ?_
      refine lv_iload_n hx hb (D_27 W_prog_15_method_90_code_32 7 rfl rfl) rfl (lv_at hl 2 rfl) ?_
      refine zmul hx hb (D_104 W_prog_15_method_90_code_32 8 rfl rfl) ?_
      refine lv_iload_n hx hb (D_29 W_prog_15_method_90_code_32 9 rfl rfl) rfl (lv_at hl 0 rfl) ?_
      refine zadd hx hb (D_96 W_prog_15_method_90_code_32 10 rfl rfl) ?_
      exact b_M_sounding_43 X hf hZ hS (lv_sub hl [] rfl)
    · replace hf := gpos hf h7
      exact b_M_sounding_32 X hf hZ hS (lv_sub hl [] rfl)

abbrev Q_M_turnOf (D : va_G) (ca : Nat → ClassId) (ad : Nat → Int → Nat → Nat) (L : List Nat) (r : Int) (F : zF) (B : zB) (A : Nat → Prop) : Array Value → State → Outcome → State → Prop := va_Ql (S := Unit) (fun p _ => p = lI r) (fun _ => zPo D ca ad lnM nM L F B A) A
def f_M_turnOf_108 (K : Nat) (s0 : Int) (F : zF) (B : zB) : zO := some (s0, F, B)
set_option maxHeartbeats 4000000 in
set_option maxRecDepth 100000 in
theorem b_M_turnOf_108 {D : va_G} {ca : Nat → ClassId} {ad : Nat → Int → Nat → Nat} {L : List Nat} {aS vS : Nat → Nat} {A : Nat → Prop} {p : Program} {l : Launch} {e : Env} {s : State} {m : MethodId} {args : Array Value} {below : List Frame} {meth : Method} {c : Code} {K : Nat} {r : Int} {F9 : zF} {B9 : zB} (X : zX D ca L aS vS A p s m args meth c prog_15_method_162_code 1 (Option.some Jvm.ClassFile.FieldType.long) "StaveHouseModel") {s0 : Int} {F : zF} {B : zB} {H : Heap} {locs : List Loc} {ls : Array Slot} (hf : f_M_turnOf_108 K s0 F B = some (r, F9, B9)) (hZ : zH D ca ad lnM nM L F B A H) (hS : va_S A s.heap H locs) (hl : lv_has ls 1 []) : W p l e ({ frames := 0, cells := 0, slots := 0, locals := 0 } : Room) s m args below meth c H locs 0 0 (MQ below (Q_M_turnOf D ca ad L r F9 B9 A) args s 0 0 A) (F0 m 108 ls [.long (lI s0)]) := by
  obtain ⟨hx, hb, hr, hml, hown, hts, hlk, hK, hA, hL, hX⟩ := id X
  replace hf : (some (s0, F, B)) = some (r, F9, B9) := hf
  cases hf
  exact W.lret hx hb hr (fun t ht hW => ⟨⟨_, (), rfl, rfl, by rw [ht]; exact hZ, va_K.moved hW.alike hK⟩, hS.F ht⟩) hS.2.2 (D_173 W_prog_15_method_162_code_96 12 rfl rfl) hlk

def f_M_turnOf (K : Nat) (l0 : Int) (F : zF) (B : zB) : zO := if r32 l0 then (if l0 = 0 then some (2247346494, F, B) else (if l0 = 1 then some (2380980670, F, B) else (if l0 = 2 then some (2522561148, F, B) else (if l0 = 3 then some (2672560440, F, B) else (if l0 = 4 then some (2831479154, F, B) else (if l0 = 5 then some (2999847666, F, B) else (if l0 = 6 then some (3178227890, F, B) else (if l0 = 7 then some (3367215155, F, B) else (if l0 = 8 then some (3567440188, F, B) else (if l0 = 9 then some (3779571220, F, B) else (if l0 = 10 then f_M_turnOf_108 K 4004316221 F B else f_M_turnOf_108 K 4242425254 F B))))))))))) else none
set_option maxHeartbeats 4000000 in
set_option maxRecDepth 100000 in
theorem c_M_turnOf {l : Launch} {D : va_G} {ca : Nat → ClassId} {ad : Nat → Int → Nat → Nat} {L : List Nat} {aS vS : Nat → Nat} {sz K : Nat}  {l0 : Int} {F F9 : zF} {B B9 : zB} {r : Int} (hf : f_M_turnOf K l0 F B = some (r, F9, B9)) : Met l ({ cls := "StaveHouseModel", name := "turnOf", desc := "(I)J" } : Jvm.MethodName) (Cond.code ({ cls := "StaveHouseModel", name := "turnOf", desc := "(I)J" } : Jvm.MethodName) prog_15_method_162_code 1 (Option.some Jvm.ClassFile.FieldType.long) :: wAll) ({ frames := 0, cells := 0, slots := 0, locals := 0 } : Room) (va_Pc [.int (iI l0)] (zPre D ca ad lnM nM L aS vS F B sz)) (Q_M_turnOf D ca ad L r F9 B9 (zA L sz)) 0 0 (zA L sz) := by
  refine zMet (Qc := Q_M_turnOf D ca ad L r F9 B9) (lv := [(0, .int (iI l0))]) (by decide) (Nat.le_of_ble_eq_true rfl) rfl (fun A p e s m below meth c ls X hZ hS hl => ?_)
  obtain ⟨hx, hb, hr, hml, hown, hts, hlk, hK, hA, hL, hX⟩ := id X
  replace hf : (if r32 l0 then (if l0 = 0 then some (2247346494, F, B) else (if l0 = 1 then some (2380980670, F, B) else (if l0 = 2 then some (2522561148, F, B) else (if l0 = 3 then some (2672560440, F, B) else (if l0 = 4 then some (2831479154, F, B) else (if l0 = 5 then some (2999847666, F, B) else (if l0 = 6 then some (3178227890, F, B) else (if l0 = 7 then some (3367215155, F, B) else (if l0 = 8 then some (3567440188, F, B) else (if l0 = 9 then some (3779571220, F, B) else (if l0 = 10 then f_M_turnOf_108 K 4004316221 F B else f_M_turnOf_108 K 4242425254 F B))))))))))) else none) = some (r, F9, B9) := hf
  refine lv_iload_n hx hb (D_26 W_prog_15_method_162_code_0 0 rfl rfl) rfl (lv_at hl 0 rfl) ?_
  obtain ⟨g1, hf⟩ := gif hf
  refine z0ne (tgt := 8) hx hb g1 (D_154 W_prog_15_method_162_code_0 1 rfl rfl rfl) (by decide) (fun h2 => ?_) (fun h2 => ?_)
  · replace hf := gneg hf h2
    refine lv_iload_n hx hb (D_26 W_prog_15_method_162_code_0 8 rfl rfl) rfl (lv_at hl 0 rfl) ?_
    refine lv_iconst (v := iI 1) hx hb (D_4 W_prog_15_method_162_code_0 9 rfl rfl) rfl ?_
    refine zne (tgt := 17) hx hb g1 (by decide) (D_160 W_prog_15_method_162_code_0 10 rfl rfl rfl) (by decide) (fun h3 => ?_) (fun h3 => ?_)
    · replace hf := gneg hf h3
      refine lv_iload_n hx hb (D_26 W_prog_15_method_162_code_0 17 rfl rfl) rfl (lv_at hl 0 rfl) ?_
      refine lv_iconst (v := iI 2) hx hb (D_5 W_prog_15_method_162_code_0 18 rfl rfl) rfl ?_
      refine zne (tgt := 26) hx hb g1 (by decide) (D_160 W_prog_15_method_162_code_0 19 rfl rfl rfl) (by decide) (fun h4 => ?_) (fun h4 => ?_)
      · replace hf := gneg hf h4
        refine lv_iload_n hx hb (D_26 W_prog_15_method_162_code_0 26 rfl rfl) rfl (lv_at hl 0 rfl) ?_
        refine lv_iconst (v := iI 3) hx hb (D_6 W_prog_15_method_162_code_0 27 rfl rfl) rfl ?_
        refine zne (tgt := 35) hx hb g1 (by decide) (D_160 W_prog_15_method_162_code_0 28 rfl rfl rfl) (by decide) (fun h5 => ?_) (fun h5 => ?_)
        · replace hf := gneg hf h5
          refine lv_iload_n hx hb (D_26 W_prog_15_method_162_code_32 3 rfl rfl) rfl (lv_at hl 0 rfl) ?_
          refine lv_iconst (v := iI 4) hx hb (D_7 W_prog_15_method_162_code_32 4 rfl rfl) rfl ?_
          refine zne (tgt := 44) hx hb g1 (by decide) (D_160 W_prog_15_method_162_code_32 5 rfl rfl rfl) (by decide) (fun h6 => ?_) (fun h6 => ?_)
          · replace hf := gneg hf h6
            refine lv_iload_n hx hb (D_26 W_prog_15_method_162_code_32 12 rfl rfl) rfl (lv_at hl 0 rfl) ?_
            refine lv_iconst (v := iI 5) hx hb (D_8 W_prog_15_method_162_code_32 13 rfl rfl) rfl ?_
            refine zne (tgt := 53) hx hb g1 (by decide) (D_160 W_prog_15_method_162_code_32 14 rfl rfl rfl) (by decide) (fun h7 => ?_) (fun h7 => ?_)
            · replace hf := gneg hf h7
              refine lv_iload_n hx hb (D_26 W_prog_15_method_162_code_32 21 rfl rfl) rfl (lv_at hl 0 rfl) ?_
              refine lv_bipush (v := iI 6) hx hb (D_16 W_prog_15_method_162_code_32 22 rfl rfl rfl) (by decide) ?_
              refine zne (tgt := 63) hx hb g1 (by decide) (D_160 W_prog_15_method_162_code_32 24 rfl rfl rfl) (by decide) (fun h8 => ?_) (fun h8 => ?_)
              · replace hf := gneg hf h8
                refine lv_iload_n hx hb (D_26 W_prog_15_method_162_code_32 31 rfl rfl) rfl (lv_at hl 0 rfl) ?_
                refine lv_bipush (v := iI 7) hx hb (D_16 W_prog_15_method_162_code_64 0 rfl rfl rfl) (by decide) ?_
                refine zne (tgt := 73) hx hb g1 (by decide) (D_160 W_prog_15_method_162_code_64 2 rfl rfl rfl) (by decide) (fun h9 => ?_) (fun h9 => ?_)
                · replace hf := gneg hf h9
                  refine lv_iload_n hx hb (D_26 W_prog_15_method_162_code_64 9 rfl rfl) rfl (lv_at hl 0 rfl) ?_
                  refine lv_bipush (v := iI 8) hx hb (D_16 W_prog_15_method_162_code_64 10 rfl rfl rfl) (by decide) ?_
                  refine zne (tgt := 83) hx hb g1 (by decide) (D_160 W_prog_15_method_162_code_64 12 rfl rfl rfl) (by decide) (fun h10 => ?_) (fun h10 => ?_)
                  · replace hf := gneg hf h10
                    refine lv_iload_n hx hb (D_26 W_prog_15_method_162_code_64 19 rfl rfl) rfl (lv_at hl 0 rfl) ?_
                    refine lv_bipush (v := iI 9) hx hb (D_16 W_prog_15_method_162_code_64 20 rfl rfl rfl) (by decide) ?_
                    refine zne (tgt := 93) hx hb g1 (by decide) (D_160 W_prog_15_method_162_code_64 22 rfl rfl rfl) (by decide) (fun h11 => ?_) (fun h11 => ?_)
                    · replace hf := gneg hf h11
                      refine lv_iload_n hx hb (D_26 W_prog_15_method_162_code_64 29 rfl rfl) rfl (lv_at hl 0 rfl) ?_
                      refine lv_bipush (v := iI 10) hx hb (D_16 W_prog_15_method_162_code_64 30 rfl rfl rfl) (by decide) ?_
                      refine zne (tgt := 105) hx hb g1 (by decide) (D_160 W_prog_15_method_162_code_96 0 rfl rfl rfl) (by decide) (fun h12 => ?_) (fun h12 => ?_)
                      · replace hf := gneg hf h12
                        refine lv_ldc2 hx hb hown (hts _ k_13_230) (D_20 W_prog_15_method_162_code_96 9 rfl rfl rfl) ?_
                        refine W.eq (g2 := F0 m 108 ls [.long (lI 4242425254)]) rfl ?_
                        exact b_M_turnOf_108 X hf hZ hS (lv_sub hl [] rfl)
                      · replace hf := gpos hf h12
                        refine lv_ldc2 hx hb hown (hts _ k_13_229) (D_20 W_prog_15_method_162_code_96 3 rfl rfl rfl) ?_
                        refine W.eq (g2 := F0 m 102 ls [.long (lI 4004316221)]) rfl ?_
                        refine lv_goto (tgt := 108) hx hb (D_167 W_prog_15_method_162_code_96 6 rfl rfl rfl) (by decide) ?_
                        exact b_M_turnOf_108 X hf hZ hS (lv_sub hl [] rfl)
                    · replace hf := gpos hf h11
                      refine lv_ldc2 hx hb hown (hts _ k_13_228) (D_20 W_prog_15_method_162_code_64 25 rfl rfl rfl) ?_
                      refine W.eq (g2 := F0 m 92 ls [.long (lI 3779571220)]) rfl ?_
                      cases hf
                      exact W.lret hx hb hr (fun t ht hW => ⟨⟨_, (), rfl, rfl, by rw [ht]; exact hZ, va_K.moved hW.alike hK⟩, hS.F ht⟩) hS.2.2 (D_173 W_prog_15_method_162_code_64 28 rfl rfl) hlk
                  · replace hf := gpos hf h10
                    refine lv_ldc2 hx hb hown (hts _ k_13_227) (D_20 W_prog_15_method_162_code_64 15 rfl rfl rfl) ?_
                    refine W.eq (g2 := F0 m 82 ls [.long (lI 3567440188)]) rfl ?_
                    cases hf
                    exact W.lret hx hb hr (fun t ht hW => ⟨⟨_, (), rfl, rfl, by rw [ht]; exact hZ, va_K.moved hW.alike hK⟩, hS.F ht⟩) hS.2.2 (D_173 W_prog_15_method_162_code_64 18 rfl rfl) hlk
                · replace hf := gpos hf h9
                  refine lv_ldc2 hx hb hown (hts _ k_13_226) (D_20 W_prog_15_method_162_code_64 5 rfl rfl rfl) ?_
                  refine W.eq (g2 := F0 m 72 ls [.long (lI 3367215155)]) rfl ?_
                  cases hf
                  exact W.lret hx hb hr (fun t ht hW => ⟨⟨_, (), rfl, rfl, by rw [ht]; exact hZ, va_K.moved hW.alike hK⟩, hS.F ht⟩) hS.2.2 (D_173 W_prog_15_method_162_code_64 8 rfl rfl) hlk
              · replace hf := gpos hf h8
                refine lv_ldc2 hx hb hown (hts _ k_13_225) (D_20 W_prog_15_method_162_code_32 27 rfl rfl rfl) ?_
                refine W.eq (g2 := F0 m 62 ls [.long (lI 3178227890)]) rfl ?_
                cases hf
                exact W.lret hx hb hr (fun t ht hW => ⟨⟨_, (), rfl, rfl, by rw [ht]; exact hZ, va_K.moved hW.alike hK⟩, hS.F ht⟩) hS.2.2 (D_173 W_prog_15_method_162_code_32 30 rfl rfl) hlk
            · replace hf := gpos hf h7
              refine lv_ldc2 hx hb hown (hts _ k_13_224) (D_20 W_prog_15_method_162_code_32 17 rfl rfl rfl) ?_
              refine W.eq (g2 := F0 m 52 ls [.long (lI 2999847666)]) rfl ?_
              cases hf
              exact W.lret hx hb hr (fun t ht hW => ⟨⟨_, (), rfl, rfl, by rw [ht]; exact hZ, va_K.moved hW.alike hK⟩, hS.F ht⟩) hS.2.2 (D_173 W_prog_15_method_162_code_32 20 rfl rfl) hlk
          · replace hf := gpos hf h6
            refine lv_ldc2 hx hb hown (hts _ k_13_223) (D_20 W_prog_15_method_162_code_32 8 rfl rfl rfl) ?_
            refine W.eq (g2 := F0 m 43 ls [.long (lI 2831479154)]) rfl ?_
            cases hf
            exact W.lret hx hb hr (fun t ht hW => ⟨⟨_, (), rfl, rfl, by rw [ht]; exact hZ, va_K.moved hW.alike hK⟩, hS.F ht⟩) hS.2.2 (D_173 W_prog_15_method_162_code_32 11 rfl rfl) hlk
        · replace hf := gpos hf h5
          refine lv_ldc2 hx hb hown (hts _ k_13_222) (D_20 W_prog_15_method_162_code_0 31 rfl rfl rfl) ?_
          refine W.eq (g2 := F0 m 34 ls [.long (lI 2672560440)]) rfl ?_
          cases hf
          exact W.lret hx hb hr (fun t ht hW => ⟨⟨_, (), rfl, rfl, by rw [ht]; exact hZ, va_K.moved hW.alike hK⟩, hS.F ht⟩) hS.2.2 (D_173 W_prog_15_method_162_code_32 2 rfl rfl) hlk
      · replace hf := gpos hf h4
        refine lv_ldc2 hx hb hown (hts _ k_13_221) (D_20 W_prog_15_method_162_code_0 22 rfl rfl rfl) ?_
        refine W.eq (g2 := F0 m 25 ls [.long (lI 2522561148)]) rfl ?_
        cases hf
        exact W.lret hx hb hr (fun t ht hW => ⟨⟨_, (), rfl, rfl, by rw [ht]; exact hZ, va_K.moved hW.alike hK⟩, hS.F ht⟩) hS.2.2 (D_173 W_prog_15_method_162_code_0 25 rfl rfl) hlk
    · replace hf := gpos hf h3
      refine lv_ldc2 hx hb hown (hts _ k_13_220) (D_20 W_prog_15_method_162_code_0 13 rfl rfl rfl) ?_
      refine W.eq (g2 := F0 m 16 ls [.long (lI 2380980670)]) rfl ?_
      cases hf
      exact W.lret hx hb hr (fun t ht hW => ⟨⟨_, (), rfl, rfl, by rw [ht]; exact hZ, va_K.moved hW.alike hK⟩, hS.F ht⟩) hS.2.2 (D_173 W_prog_15_method_162_code_0 16 rfl rfl) hlk
  · replace hf := gpos hf h2
    refine lv_ldc2 hx hb hown (hts _ k_13_219) (D_20 W_prog_15_method_162_code_0 4 rfl rfl rfl) ?_
    refine W.eq (g2 := F0 m 7 ls [.long (lI 2247346494)]) rfl ?_
    cases hf
    exact W.lret hx hb hr (fun t ht hW => ⟨⟨_, (), rfl, rfl, by rw [ht]; exact hZ, va_K.moved hW.alike hK⟩, hS.F ht⟩) hS.2.2 (D_173 W_prog_15_method_162_code_0 7 rfl rfl) hlk

abbrev Q_M_wave (D : va_G) (ca : Nat → ClassId) (ad : Nat → Int → Nat → Nat) (L : List Nat) (r : Int) (F : zF) (B : zB) (A : Nat → Prop) : Array Value → State → Outcome → State → Prop := va_Qi (S := Unit) (fun p _ => p = iI r) (fun _ => zPo D ca ad lnM nM L F B A) A
def f_M_wave_76 (K : Nat) (s0 : Int) (s1 : Int) (s2 : Int) (F : zF) (B : zB) : zO := some (zdv (s0 * (s1 - s2)) 32, F, B)
set_option maxHeartbeats 4000000 in
set_option maxRecDepth 100000 in
theorem b_M_wave_76 {D : va_G} {ca : Nat → ClassId} {ad : Nat → Int → Nat → Nat} {L : List Nat} {aS vS : Nat → Nat} {A : Nat → Prop} {p : Program} {l : Launch} {e : Env} {s : State} {m : MethodId} {args : Array Value} {below : List Frame} {meth : Method} {c : Code} {K : Nat} {r : Int} {F9 : zF} {B9 : zB} (X : zX D ca L aS vS A p s m args meth c prog_15_method_165_code 3 (Option.some Jvm.ClassFile.FieldType.int) "StaveHouseModel") {s0 : Int} {s1 : Int} {s2 : Int} {F : zF} {B : zB} {H : Heap} {locs : List Loc} {ls : Array Slot} (hf : f_M_wave_76 K s0 s1 s2 F B = some (r, F9, B9)) (hZ : zH D ca ad lnM nM L F B A H) (hS : va_S A s.heap H locs) (hl : lv_has ls 3 []) : W p l e ({ frames := 0, cells := 0, slots := 0, locals := 0 } : Room) s m args below meth c H locs 0 0 (MQ below (Q_M_wave D ca ad L r F9 B9 A) args s 0 0 A) (F0 m 76 ls [.int (iI s2), .int (iI s1), .int (iI s0)]) := by
  obtain ⟨hx, hb, hr, hml, hown, hts, hlk, hK, hA, hL, hX⟩ := id X
  replace hf : (some (zdv (s0 * (s1 - s2)) 32, F, B)) = some (r, F9, B9) := hf
  refine zsub hx hb (D_100 W_prog_15_method_165_code_64 12 rfl rfl) ?_
  refine zmul hx hb (D_104 W_prog_15_method_165_code_64 13 rfl rfl) ?_
  refine lv_bipush (v := iI 32) hx hb (D_16 W_prog_15_method_165_code_64 14 rfl rfl rfl) (by decide) ?_
  refine zdv_r hx hb (by decide) (D_108 W_prog_15_method_165_code_64 16 rfl rfl) ?_
  cases hf
  exact W.iret hx hb hr (fun t ht hW => ⟨⟨_, (), rfl, rfl, by rw [ht]; exact hZ, va_K.moved hW.alike hK⟩, hS.F ht⟩) hS.2.2 (D_172 W_prog_15_method_165_code_64 17 rfl rfl) hlk

def f_M_wave_43 (K : Nat) (s0 : Int) (F : zF) (B : zB) : zO := some (s0, F, B)
set_option maxHeartbeats 4000000 in
set_option maxRecDepth 100000 in
theorem b_M_wave_43 {D : va_G} {ca : Nat → ClassId} {ad : Nat → Int → Nat → Nat} {L : List Nat} {aS vS : Nat → Nat} {A : Nat → Prop} {p : Program} {l : Launch} {e : Env} {s : State} {m : MethodId} {args : Array Value} {below : List Frame} {meth : Method} {c : Code} {K : Nat} {r : Int} {F9 : zF} {B9 : zB} (X : zX D ca L aS vS A p s m args meth c prog_15_method_165_code 3 (Option.some Jvm.ClassFile.FieldType.int) "StaveHouseModel") {s0 : Int} {F : zF} {B : zB} {H : Heap} {locs : List Loc} {ls : Array Slot} (hf : f_M_wave_43 K s0 F B = some (r, F9, B9)) (hZ : zH D ca ad lnM nM L F B A H) (hS : va_S A s.heap H locs) (hl : lv_has ls 3 []) : W p l e ({ frames := 0, cells := 0, slots := 0, locals := 0 } : Room) s m args below meth c H locs 0 0 (MQ below (Q_M_wave D ca ad L r F9 B9 A) args s 0 0 A) (F0 m 43 ls [.int (iI s0)]) := by
  obtain ⟨hx, hb, hr, hml, hown, hts, hlk, hK, hA, hL, hX⟩ := id X
  replace hf : (some (s0, F, B)) = some (r, F9, B9) := hf
  cases hf
  exact W.iret hx hb hr (fun t ht hW => ⟨⟨_, (), rfl, rfl, by rw [ht]; exact hZ, va_K.moved hW.alike hK⟩, hS.F ht⟩) hS.2.2 (D_172 W_prog_15_method_165_code_32 11 rfl rfl) hlk

def f_M_wave_24 (K : Nat) (l0 : Int) (l1 : Int) (s0 : Int) (F : zF) (B : zB) : zO := if r32 l0 then (if l0 = 0 then if r32 l1 then (if 128 ≤ l1 then f_M_wave_43 K (-96) F B else f_M_wave_43 K 96 F B) else none else (if l0 = 1 then some (l1 - 128, F, B) else (if l0 = 2 then some (s0, F, B) else if r32 s0 then (if 0 ≤ s0 then f_M_wave_76 K s0 128 s0 F B else f_M_wave_76 K s0 128 (-s0) F B) else none))) else none
set_option maxHeartbeats 4000000 in
set_option maxRecDepth 100000 in
theorem b_M_wave_24 {D : va_G} {ca : Nat → ClassId} {ad : Nat → Int → Nat → Nat} {L : List Nat} {aS vS : Nat → Nat} {A : Nat → Prop} {p : Program} {l : Launch} {e : Env} {s : State} {m : MethodId} {args : Array Value} {below : List Frame} {meth : Method} {c : Code} {K : Nat} {r : Int} {F9 : zF} {B9 : zB} (X : zX D ca L aS vS A p s m args meth c prog_15_method_165_code 3 (Option.some Jvm.ClassFile.FieldType.int) "StaveHouseModel") {l0 : Int} {l1 : Int} {s0 : Int} {F : zF} {B : zB} {H : Heap} {locs : List Loc} {ls : Array Slot} (hf : f_M_wave_24 K l0 l1 s0 F B = some (r, F9, B9)) (hZ : zH D ca ad lnM nM L F B A H) (hS : va_S A s.heap H locs) (hl : lv_has ls 3 [(0, .int (iI l0)), (1, .int (iI l1))]) : W p l e ({ frames := 0, cells := 0, slots := 0, locals := 0 } : Room) s m args below meth c H locs 0 0 (MQ below (Q_M_wave D ca ad L r F9 B9 A) args s 0 0 A) (F0 m 24 ls [.int (iI s0)]) := by
  obtain ⟨hx, hb, hr, hml, hown, hts, hlk, hK, hA, hL, hX⟩ := id X
  replace hf : (if r32 l0 then (if l0 = 0 then if r32 l1 then (if 128 ≤ l1 then f_M_wave_43 K (-96) F B else f_M_wave_43 K 96 F B) else none else (if l0 = 1 then some (l1 - 128, F, B) else (if l0 = 2 then some (s0, F, B) else if r32 s0 then (if 0 ≤ s0 then f_M_wave_76 K s0 128 s0 F B else f_M_wave_76 K s0 128 (-s0) F B) else none))) else none) = some (r, F9, B9) := hf
  refine lv_istore_n (lv' := [(2, .int (iI s0)), (0, .int (iI l0)), (1, .int (iI l1))]) hx hb (D_61 W_prog_15_method_165_code_0 24 rfl rfl) rfl hl (by decide) rfl (fun ls hl => ?_)
  refine lv_iload_n hx hb (D_26 W_prog_15_method_165_code_0 25 rfl rfl) rfl (lv_at hl 1 rfl) ?_
  obtain ⟨g3, hf⟩ := gif hf
  refine z0ne (tgt := 44) hx hb g3 (D_154 W_prog_15_method_165_code_0 26 rfl rfl rfl) (by decide) (fun h4 => ?_) (fun h4 => ?_)
  · replace hf := gneg hf h4
    refine lv_iload_n hx hb (D_26 W_prog_15_method_165_code_32 12 rfl rfl) rfl (lv_at hl 1 rfl) ?_
    refine lv_iconst (v := iI 1) hx hb (D_4 W_prog_15_method_165_code_32 13 rfl rfl) rfl ?_
    refine zne (tgt := 55) hx hb g3 (by decide) (D_160 W_prog_15_method_165_code_32 14 rfl rfl rfl) (by decide) (fun h5 => ?_) (fun h5 => ?_)
    · replace hf := gneg hf h5
      refine lv_iload_n hx hb (D_26 W_prog_15_method_165_code_32 23 rfl rfl) rfl (lv_at hl 1 rfl) ?_
      refine lv_iconst (v := iI 2) hx hb (D_5 W_prog_15_method_165_code_32 24 rfl rfl) rfl ?_
      refine zne (tgt := 62) hx hb g3 (by decide) (D_160 W_prog_15_method_165_code_32 25 rfl rfl rfl) (by decide) (fun h6 => ?_) (fun h6 => ?_)
      · replace hf := gneg hf h6
        refine lv_iload_n hx hb (D_28 W_prog_15_method_165_code_32 30 rfl rfl) rfl (lv_at hl 0 rfl) ?_
        refine lv_sipush (v := iI 128) hx hb (D_17 W_prog_15_method_165_code_32 31 rfl rfl rfl) (by decide) ?_
        refine lv_iload_n hx hb (D_28 W_prog_15_method_165_code_64 2 rfl rfl) rfl (lv_at hl 0 rfl) ?_
        obtain ⟨g7, hf⟩ := gif hf
        refine z0ge (tgt := 75) hx hb g7 (D_156 W_prog_15_method_165_code_64 3 rfl rfl rfl) (by decide) (fun h8 => ?_) (fun h8 => ?_)
        · replace hf := gpos hf h8
          refine lv_iload_n hx hb (D_28 W_prog_15_method_165_code_64 11 rfl rfl) rfl (lv_at hl 0 rfl) ?_
          exact b_M_wave_76 X hf hZ hS (lv_sub hl [] rfl)
        · replace hf := gneg hf h8
          refine lv_iload_n hx hb (D_28 W_prog_15_method_165_code_64 6 rfl rfl) rfl (lv_at hl 0 rfl) ?_
          refine zneg hx hb (D_116 W_prog_15_method_165_code_64 7 rfl rfl) ?_
          refine lv_goto (tgt := 76) hx hb (D_167 W_prog_15_method_165_code_64 8 rfl rfl rfl) (by decide) ?_
          exact b_M_wave_76 X hf hZ hS (lv_sub hl [] rfl)
      · replace hf := gpos hf h6
        refine lv_iload_n hx hb (D_28 W_prog_15_method_165_code_32 28 rfl rfl) rfl (lv_at hl 0 rfl) ?_
        cases hf
        exact W.iret hx hb hr (fun t ht hW => ⟨⟨_, (), rfl, rfl, by rw [ht]; exact hZ, va_K.moved hW.alike hK⟩, hS.F ht⟩) hS.2.2 (D_172 W_prog_15_method_165_code_32 29 rfl rfl) hlk
    · replace hf := gpos hf h5
      refine lv_iload_n hx hb (D_27 W_prog_15_method_165_code_32 17 rfl rfl) rfl (lv_at hl 2 rfl) ?_
      refine lv_sipush (v := iI 128) hx hb (D_17 W_prog_15_method_165_code_32 18 rfl rfl rfl) (by decide) ?_
      refine zsub hx hb (D_100 W_prog_15_method_165_code_32 21 rfl rfl) ?_
      cases hf
      exact W.iret hx hb hr (fun t ht hW => ⟨⟨_, (), rfl, rfl, by rw [ht]; exact hZ, va_K.moved hW.alike hK⟩, hS.F ht⟩) hS.2.2 (D_172 W_prog_15_method_165_code_32 22 rfl rfl) hlk
  · replace hf := gpos hf h4
    refine lv_iload_n hx hb (D_27 W_prog_15_method_165_code_0 29 rfl rfl) rfl (lv_at hl 2 rfl) ?_
    refine lv_sipush (v := iI 128) hx hb (D_17 W_prog_15_method_165_code_0 30 rfl rfl rfl) (by decide) ?_
    obtain ⟨g9, hf⟩ := gif hf
    refine zge (tgt := 41) hx hb g9 (by decide) (D_162 W_prog_15_method_165_code_32 1 rfl rfl rfl) (by decide) (fun h10 => ?_) (fun h10 => ?_)
    · replace hf := gpos hf h10
      refine lv_bipush (v := iI (-96)) hx hb (D_16 W_prog_15_method_165_code_32 9 rfl rfl rfl) (by decide) ?_
      exact b_M_wave_43 X hf hZ hS (lv_sub hl [] rfl)
    · replace hf := gneg hf h10
      refine lv_bipush (v := iI 96) hx hb (D_16 W_prog_15_method_165_code_32 4 rfl rfl rfl) (by decide) ?_
      refine lv_goto (tgt := 43) hx hb (D_167 W_prog_15_method_165_code_32 6 rfl rfl rfl) (by decide) ?_
      exact b_M_wave_43 X hf hZ hS (lv_sub hl [] rfl)

def f_M_wave (K : Nat) (l0 : Int) (l1 : Int) (F : zF) (B : zB) : zO := if r32 l1 then (if 128 ≤ l1 then f_M_wave_24 K l0 l1 (383 - (2 * l1)) F B else f_M_wave_24 K l0 l1 ((2 * l1) - 128) F B) else none
set_option maxHeartbeats 4000000 in
set_option maxRecDepth 100000 in
theorem c_M_wave {l : Launch} {D : va_G} {ca : Nat → ClassId} {ad : Nat → Int → Nat → Nat} {L : List Nat} {aS vS : Nat → Nat} {sz K : Nat}  {l0 : Int} {l1 : Int} {F F9 : zF} {B B9 : zB} {r : Int} (hf : f_M_wave K l0 l1 F B = some (r, F9, B9)) : Met l ({ cls := "StaveHouseModel", name := "wave", desc := "(II)I" } : Jvm.MethodName) (Cond.code ({ cls := "StaveHouseModel", name := "wave", desc := "(II)I" } : Jvm.MethodName) prog_15_method_165_code 3 (Option.some Jvm.ClassFile.FieldType.int) :: wAll) ({ frames := 0, cells := 0, slots := 0, locals := 0 } : Room) (va_Pc [.int (iI l0), .int (iI l1)] (zPre D ca ad lnM nM L aS vS F B sz)) (Q_M_wave D ca ad L r F9 B9 (zA L sz)) 0 0 (zA L sz) := by
  refine zMet (Qc := Q_M_wave D ca ad L r F9 B9) (lv := [(0, .int (iI l0)), (1, .int (iI l1))]) (by decide) (Nat.le_of_ble_eq_true rfl) rfl (fun A p e s m below meth c ls X hZ hS hl => ?_)
  obtain ⟨hx, hb, hr, hml, hown, hts, hlk, hK, hA, hL, hX⟩ := id X
  replace hf : (if r32 l1 then (if 128 ≤ l1 then f_M_wave_24 K l0 l1 (383 - (2 * l1)) F B else f_M_wave_24 K l0 l1 ((2 * l1) - 128) F B) else none) = some (r, F9, B9) := hf
  refine lv_iload_n hx hb (D_27 W_prog_15_method_165_code_0 0 rfl rfl) rfl (lv_at hl 1 rfl) ?_
  refine lv_sipush (v := iI 128) hx hb (D_17 W_prog_15_method_165_code_0 1 rfl rfl rfl) (by decide) ?_
  obtain ⟨g1, hf⟩ := gif hf
  refine zge (tgt := 17) hx hb g1 (by decide) (D_162 W_prog_15_method_165_code_0 4 rfl rfl rfl) (by decide) (fun h2 => ?_) (fun h2 => ?_)
  · replace hf := gpos hf h2
    refine lv_sipush (v := iI 383) hx hb (D_17 W_prog_15_method_165_code_0 17 rfl rfl rfl) (by decide) ?_
    refine lv_iconst (v := iI 2) hx hb (D_5 W_prog_15_method_165_code_0 20 rfl rfl) rfl ?_
    refine lv_iload_n hx hb (D_27 W_prog_15_method_165_code_0 21 rfl rfl) rfl (lv_at hl 1 rfl) ?_
    refine zmul hx hb (D_104 W_prog_15_method_165_code_0 22 rfl rfl) ?_
    refine zsub hx hb (D_100 W_prog_15_method_165_code_0 23 rfl rfl) ?_
    exact b_M_wave_24 X hf hZ hS (lv_sub hl [0, 1] rfl)
  · replace hf := gneg hf h2
    refine lv_iconst (v := iI 2) hx hb (D_5 W_prog_15_method_165_code_0 7 rfl rfl) rfl ?_
    refine lv_iload_n hx hb (D_27 W_prog_15_method_165_code_0 8 rfl rfl) rfl (lv_at hl 1 rfl) ?_
    refine zmul hx hb (D_104 W_prog_15_method_165_code_0 9 rfl rfl) ?_
    refine lv_sipush (v := iI 128) hx hb (D_17 W_prog_15_method_165_code_0 10 rfl rfl rfl) (by decide) ?_
    refine zsub hx hb (D_100 W_prog_15_method_165_code_0 13 rfl rfl) ?_
    refine lv_goto (tgt := 24) hx hb (D_167 W_prog_15_method_165_code_0 14 rfl rfl rfl) (by decide) ?_
    exact b_M_wave_24 X hf hZ hS (lv_sub hl [0, 1] rfl)

abbrev Q_M_rise (D : va_G) (ca : Nat → ClassId) (ad : Nat → Int → Nat → Nat) (L : List Nat) (r : Int) (F : zF) (B : zB) (A : Nat → Prop) : Array Value → State → Outcome → State → Prop := va_Qi (S := Unit) (fun p _ => p = iI r) (fun _ => zPo D ca ad lnM nM L F B A) A
def f_M_rise_41 (K : Nat) (s0 : Int) (F : zF) (B : zB) : zO := some (s0, F, B)
set_option maxHeartbeats 4000000 in
set_option maxRecDepth 100000 in
theorem b_M_rise_41 {D : va_G} {ca : Nat → ClassId} {ad : Nat → Int → Nat → Nat} {L : List Nat} {aS vS : Nat → Nat} {A : Nat → Prop} {p : Program} {l : Launch} {e : Env} {s : State} {m : MethodId} {args : Array Value} {below : List Frame} {meth : Method} {c : Code} {K : Nat} {r : Int} {F9 : zF} {B9 : zB} (X : zX D ca L aS vS A p s m args meth c prog_15_method_163_code 2 (Option.some Jvm.ClassFile.FieldType.int) "StaveHouseModel") {s0 : Int} {F : zF} {B : zB} {H : Heap} {locs : List Loc} {ls : Array Slot} (hf : f_M_rise_41 K s0 F B = some (r, F9, B9)) (hZ : zH D ca ad lnM nM L F B A H) (hS : va_S A s.heap H locs) (hl : lv_has ls 2 []) : W p l e ({ frames := 0, cells := 0, slots := 0, locals := 0 } : Room) s m args below meth c H locs 0 0 (MQ below (Q_M_rise D ca ad L r F9 B9 A) args s 0 0 A) (F0 m 41 ls [.int (iI s0)]) := by
  obtain ⟨hx, hb, hr, hml, hown, hts, hlk, hK, hA, hL, hX⟩ := id X
  replace hf : (some (s0, F, B)) = some (r, F9, B9) := hf
  cases hf
  exact W.iret hx hb hr (fun t ht hW => ⟨⟨_, (), rfl, rfl, by rw [ht]; exact hZ, va_K.moved hW.alike hK⟩, hS.F ht⟩) hS.2.2 (D_172 W_prog_15_method_163_code_32 9 rfl rfl) hlk

def f_M_rise (K : Nat) (l0 : Int) (F : zF) (B : zB) : zO := if r32 l0 then (if 40 ≤ l0 then if r32 (256 - (zdv (l0 - 40) 16)) then (if 128 ≤ (256 - (zdv (l0 - 40) 16)) then f_M_rise_41 K (256 - (zdv (l0 - 40) 16)) F B else f_M_rise_41 K 128 F B) else none else some (zdv (256 * l0) 40, F, B)) else none
set_option maxHeartbeats 4000000 in
set_option maxRecDepth 100000 in
theorem c_M_rise {l : Launch} {D : va_G} {ca : Nat → ClassId} {ad : Nat → Int → Nat → Nat} {L : List Nat} {aS vS : Nat → Nat} {sz K : Nat}  {l0 : Int} {F F9 : zF} {B B9 : zB} {r : Int} (hf : f_M_rise K l0 F B = some (r, F9, B9)) : Met l ({ cls := "StaveHouseModel", name := "rise", desc := "(I)I" } : Jvm.MethodName) (Cond.code ({ cls := "StaveHouseModel", name := "rise", desc := "(I)I" } : Jvm.MethodName) prog_15_method_163_code 2 (Option.some Jvm.ClassFile.FieldType.int) :: wAll) ({ frames := 0, cells := 0, slots := 0, locals := 0 } : Room) (va_Pc [.int (iI l0)] (zPre D ca ad lnM nM L aS vS F B sz)) (Q_M_rise D ca ad L r F9 B9 (zA L sz)) 0 0 (zA L sz) := by
  refine zMet (Qc := Q_M_rise D ca ad L r F9 B9) (lv := [(0, .int (iI l0))]) (by decide) (Nat.le_of_ble_eq_true rfl) rfl (fun A p e s m below meth c ls X hZ hS hl => ?_)
  obtain ⟨hx, hb, hr, hml, hown, hts, hlk, hK, hA, hL, hX⟩ := id X
  replace hf : (if r32 l0 then (if 40 ≤ l0 then if r32 (256 - (zdv (l0 - 40) 16)) then (if 128 ≤ (256 - (zdv (l0 - 40) 16)) then f_M_rise_41 K (256 - (zdv (l0 - 40) 16)) F B else f_M_rise_41 K 128 F B) else none else some (zdv (256 * l0) 40, F, B)) else none) = some (r, F9, B9) := hf
  refine lv_iload_n hx hb (D_26 W_prog_15_method_163_code_0 0 rfl rfl) rfl (lv_at hl 0 rfl) ?_
  refine lv_bipush (v := iI 40) hx hb (D_16 W_prog_15_method_163_code_0 1 rfl rfl rfl) (by decide) ?_
  obtain ⟨g1, hf⟩ := gif hf
  refine zge (tgt := 15) hx hb g1 (by decide) (D_162 W_prog_15_method_163_code_0 3 rfl rfl rfl) (by decide) (fun h2 => ?_) (fun h2 => ?_)
  · replace hf := gpos hf h2
    refine lv_sipush (v := iI 256) hx hb (D_17 W_prog_15_method_163_code_0 15 rfl rfl rfl) (by decide) ?_
    refine lv_iload_n hx hb (D_26 W_prog_15_method_163_code_0 18 rfl rfl) rfl (lv_at hl 0 rfl) ?_
    refine lv_bipush (v := iI 40) hx hb (D_16 W_prog_15_method_163_code_0 19 rfl rfl rfl) (by decide) ?_
    refine zsub hx hb (D_100 W_prog_15_method_163_code_0 21 rfl rfl) ?_
    refine lv_bipush (v := iI 16) hx hb (D_16 W_prog_15_method_163_code_0 22 rfl rfl rfl) (by decide) ?_
    refine zdv_r hx hb (by decide) (D_108 W_prog_15_method_163_code_0 24 rfl rfl) ?_
    refine zsub hx hb (D_100 W_prog_15_method_163_code_0 25 rfl rfl) ?_
    refine lv_istore_n (lv' := [(1, .int (iI (256 - (zdv (l0 - 40) 16)))), (0, .int (iI l0))]) hx hb (D_60 W_prog_15_method_163_code_0 26 rfl rfl) rfl hl (by decide) rfl (fun ls hl => ?_)
    refine lv_iload_n hx hb (D_27 W_prog_15_method_163_code_0 27 rfl rfl) rfl (lv_at hl 0 rfl) ?_
    refine lv_sipush (v := iI 128) hx hb (D_17 W_prog_15_method_163_code_0 28 rfl rfl rfl) (by decide) ?_
    obtain ⟨g3, hf⟩ := gif hf
    refine zge (tgt := 40) hx hb g3 (by decide) (D_162 W_prog_15_method_163_code_0 31 rfl rfl rfl) (by decide) (fun h4 => ?_) (fun h4 => ?_)
    · replace hf := gpos hf h4
      refine lv_iload_n hx hb (D_27 W_prog_15_method_163_code_32 8 rfl rfl) rfl (lv_at hl 0 rfl) ?_
      exact b_M_rise_41 X hf hZ hS (lv_sub hl [] rfl)
    · replace hf := gneg hf h4
      refine lv_sipush (v := iI 128) hx hb (D_17 W_prog_15_method_163_code_32 2 rfl rfl rfl) (by decide) ?_
      refine lv_goto (tgt := 41) hx hb (D_167 W_prog_15_method_163_code_32 5 rfl rfl rfl) (by decide) ?_
      exact b_M_rise_41 X hf hZ hS (lv_sub hl [] rfl)
  · replace hf := gneg hf h2
    refine lv_sipush (v := iI 256) hx hb (D_17 W_prog_15_method_163_code_0 6 rfl rfl rfl) (by decide) ?_
    refine lv_iload_n hx hb (D_26 W_prog_15_method_163_code_0 9 rfl rfl) rfl (lv_at hl 0 rfl) ?_
    refine zmul hx hb (D_104 W_prog_15_method_163_code_0 10 rfl rfl) ?_
    refine lv_bipush (v := iI 40) hx hb (D_16 W_prog_15_method_163_code_0 11 rfl rfl rfl) (by decide) ?_
    refine zdv_r hx hb (by decide) (D_108 W_prog_15_method_163_code_0 13 rfl rfl) ?_
    cases hf
    exact W.iret hx hb hr (fun t ht hW => ⟨⟨_, (), rfl, rfl, by rw [ht]; exact hZ, va_K.moved hW.alike hK⟩, hS.F ht⟩) hS.2.2 (D_172 W_prog_15_method_163_code_0 14 rfl rfl) hlk

abbrev Q_M_held (D : va_G) (ca : Nat → ClassId) (ad : Nat → Int → Nat → Nat) (L : List Nat) (r : Int) (F : zF) (B : zB) (A : Nat → Prop) : Array Value → State → Outcome → State → Prop := va_Qi (S := Unit) (fun p _ => p = iI r) (fun _ => zPo D ca ad lnM nM L F B A) A
def f_M_held_19 (K : Nat) (s0 : Int) (F : zF) (B : zB) : zO := some (s0, F, B)
set_option maxHeartbeats 4000000 in
set_option maxRecDepth 100000 in
theorem b_M_held_19 {D : va_G} {ca : Nat → ClassId} {ad : Nat → Int → Nat → Nat} {L : List Nat} {aS vS : Nat → Nat} {A : Nat → Prop} {p : Program} {l : Launch} {e : Env} {s : State} {m : MethodId} {args : Array Value} {below : List Frame} {meth : Method} {c : Code} {K : Nat} {r : Int} {F9 : zF} {B9 : zB} (X : zX D ca L aS vS A p s m args meth c prog_15_method_166_code 3 (Option.some Jvm.ClassFile.FieldType.int) "StaveHouseModel") {s0 : Int} {F : zF} {B : zB} {H : Heap} {locs : List Loc} {ls : Array Slot} (hf : f_M_held_19 K s0 F B = some (r, F9, B9)) (hZ : zH D ca ad lnM nM L F B A H) (hS : va_S A s.heap H locs) (hl : lv_has ls 3 []) : W p l e ({ frames := 0, cells := 0, slots := 0, locals := 0 } : Room) s m args below meth c H locs 0 0 (MQ below (Q_M_held D ca ad L r F9 B9 A) args s 0 0 A) (F0 m 19 ls [.int (iI s0)]) := by
  obtain ⟨hx, hb, hr, hml, hown, hts, hlk, hK, hA, hL, hX⟩ := id X
  replace hf : (some (s0, F, B)) = some (r, F9, B9) := hf
  cases hf
  exact W.iret hx hb hr (fun t ht hW => ⟨⟨_, (), rfl, rfl, by rw [ht]; exact hZ, va_K.moved hW.alike hK⟩, hS.F ht⟩) hS.2.2 (D_172 W_prog_15_method_166_code_0 19 rfl rfl) hlk

def f_M_held (K : Nat) (l0 : Int) (l1 : Int) (l2 : Int) (F : zF) (B : zB) : zO := if r32 l0 then if r32 l1 then (if l1 ≤ l0 then if r32 l2 then (if l0 ≤ l2 then f_M_held_19 K l0 F B else f_M_held_19 K l2 F B) else none else f_M_held_19 K l1 F B) else none else none
set_option maxHeartbeats 4000000 in
set_option maxRecDepth 100000 in
theorem c_M_held {l : Launch} {D : va_G} {ca : Nat → ClassId} {ad : Nat → Int → Nat → Nat} {L : List Nat} {aS vS : Nat → Nat} {sz K : Nat}  {l0 : Int} {l1 : Int} {l2 : Int} {F F9 : zF} {B B9 : zB} {r : Int} (hf : f_M_held K l0 l1 l2 F B = some (r, F9, B9)) : Met l ({ cls := "StaveHouseModel", name := "held", desc := "(III)I" } : Jvm.MethodName) (Cond.code ({ cls := "StaveHouseModel", name := "held", desc := "(III)I" } : Jvm.MethodName) prog_15_method_166_code 3 (Option.some Jvm.ClassFile.FieldType.int) :: wAll) ({ frames := 0, cells := 0, slots := 0, locals := 0 } : Room) (va_Pc [.int (iI l0), .int (iI l1), .int (iI l2)] (zPre D ca ad lnM nM L aS vS F B sz)) (Q_M_held D ca ad L r F9 B9 (zA L sz)) 0 0 (zA L sz) := by
  refine zMet (Qc := Q_M_held D ca ad L r F9 B9) (lv := [(0, .int (iI l0)), (1, .int (iI l1)), (2, .int (iI l2))]) (by decide) (Nat.le_of_ble_eq_true rfl) rfl (fun A p e s m below meth c ls X hZ hS hl => ?_)
  obtain ⟨hx, hb, hr, hml, hown, hts, hlk, hK, hA, hL, hX⟩ := id X
  replace hf : (if r32 l0 then if r32 l1 then (if l1 ≤ l0 then if r32 l2 then (if l0 ≤ l2 then f_M_held_19 K l0 F B else f_M_held_19 K l2 F B) else none else f_M_held_19 K l1 F B) else none else none) = some (r, F9, B9) := hf
  refine lv_iload_n hx hb (D_26 W_prog_15_method_166_code_0 0 rfl rfl) rfl (lv_at hl 0 rfl) ?_
  refine lv_iload_n hx hb (D_27 W_prog_15_method_166_code_0 1 rfl rfl) rfl (lv_at hl 1 rfl) ?_
  obtain ⟨g1, hf⟩ := gif hf
  obtain ⟨g2, hf⟩ := gif hf
  refine zge (tgt := 9) hx hb g1 g2 (D_162 W_prog_15_method_166_code_0 2 rfl rfl rfl) (by decide) (fun h3 => ?_) (fun h3 => ?_)
  · replace hf := gpos hf h3
    refine lv_iload_n hx hb (D_26 W_prog_15_method_166_code_0 9 rfl rfl) rfl (lv_at hl 0 rfl) ?_
    refine lv_iload_n hx hb (D_28 W_prog_15_method_166_code_0 10 rfl rfl) rfl (lv_at hl 2 rfl) ?_
    obtain ⟨g4, hf⟩ := gif hf
    refine zle (tgt := 18) hx hb g1 g4 (D_164 W_prog_15_method_166_code_0 11 rfl rfl rfl) (by decide) (fun h5 => ?_) (fun h5 => ?_)
    · replace hf := gpos hf h5
      refine lv_iload_n hx hb (D_26 W_prog_15_method_166_code_0 18 rfl rfl) rfl (lv_at hl 0 rfl) ?_
      exact b_M_held_19 X hf hZ hS (lv_sub hl [] rfl)
    · replace hf := gneg hf h5
      refine lv_iload_n hx hb (D_28 W_prog_15_method_166_code_0 14 rfl rfl) rfl (lv_at hl 2 rfl) ?_
      refine lv_goto (tgt := 19) hx hb (D_167 W_prog_15_method_166_code_0 15 rfl rfl rfl) (by decide) ?_
      exact b_M_held_19 X hf hZ hS (lv_sub hl [] rfl)
  · replace hf := gneg hf h3
    refine lv_iload_n hx hb (D_27 W_prog_15_method_166_code_0 5 rfl rfl) rfl (lv_at hl 1 rfl) ?_
    refine lv_goto (tgt := 19) hx hb (D_167 W_prog_15_method_166_code_0 6 rfl rfl rfl) (by decide) ?_
    exact b_M_held_19 X hf hZ hS (lv_sub hl [] rfl)

abbrev Q_M_coded (D : va_G) (ca : Nat → ClassId) (ad : Nat → Int → Nat → Nat) (L : List Nat) (r : Int) (F : zF) (B : zB) (A : Nat → Prop) : Array Value → State → Outcome → State → Prop := va_Qi (S := Unit) (fun p _ => p = iI r) (fun _ => zPo D ca ad lnM nM L F B A) A
def f_M_coded_130 (K : Nat) (l4 : Int) (l1 : Int) (s0 : Int) (s1 : Int) (s2 : Int) (F : zF) (B : zB) : zO := if 0 ≤ s0 ∧ s0 < 3 then zbind (f_M_held K (s1 + s2) (-32768) 32767 F B) (fun r20 F20 B20 => if 0 ≤ l1 ∧ l1 < 3 then if 0 ≤ (zrm l4 8) ∧ (zrm l4 8) < 8 then zbind (f_M_held K ((F20 13 l1 69) + (B20 14 0 97 (zrm l4 8))) 0 88 (zup3 F20 13 s0 68 r20) B20) (fun r24 F24 B24 => some (l4, (zup3 F24 13 l1 69 r24), B24)) else none else none) else none
set_option maxHeartbeats 4000000 in
set_option maxRecDepth 100000 in
theorem b_M_coded_130 {D : va_G} {ca : Nat → ClassId} {ad : Nat → Int → Nat → Nat} {L : List Nat} {aS vS : Nat → Nat} {A : Nat → Prop} {p : Program} {l : Launch} {e : Env} {s : State} {m : MethodId} {args : Array Value} {below : List Frame} {meth : Method} {c : Code} {K : Nat} {r : Int} {F9 : zF} {B9 : zB} (X : zX D ca L aS vS A p s m args meth c prog_15_method_169_code 7 (Option.some Jvm.ClassFile.FieldType.int) "StaveHouseModel") {l4 : Int} {l1 : Int} {s0 : Int} {s1 : Int} {s2 : Int} {F : zF} {B : zB} {H : Heap} {locs : List Loc} {ls : Array Slot} (hf : f_M_coded_130 K l4 l1 s0 s1 s2 F B = some (r, F9, B9)) (hZ : zH D ca ad lnM nM L F B A H) (hS : va_S A s.heap H locs) (hl : lv_has ls 7 [(4, .int (iI l4)), (0, .ref (ad 14 0 0)), (1, .ref (ad 13 l1 0))]) : W p l e ({ frames := 1, cells := 0, slots := 0, locals := 22 } : Room) s m args below meth c H locs 0 0 (MQ below (Q_M_coded D ca ad L r F9 B9 A) args s 0 0 A) (F0 m 130 ls [.int (iI s2), .int (iI s1), va_rf (zrf ad 13 s0)]) := by
  obtain ⟨hx, hb, hr, hml, hown, hts, hlk, hK, hA, hL, hX⟩ := id X
  replace hf : (if 0 ≤ s0 ∧ s0 < 3 then zbind (f_M_held K (s1 + s2) (-32768) 32767 F B) (fun r20 F20 B20 => if 0 ≤ l1 ∧ l1 < 3 then if 0 ≤ (zrm l4 8) ∧ (zrm l4 8) < 8 then zbind (f_M_held K ((F20 13 l1 69) + (B20 14 0 97 (zrm l4 8))) 0 88 (zup3 F20 13 s0 68 r20) B20) (fun r24 F24 B24 => some (l4, (zup3 F24 13 l1 69 r24), B24)) else none else none) else none) = some (r, F9, B9) := hf
  refine zadd hx hb (D_96 W_prog_15_method_169_code_128 2 rfl rfl) ?_
  refine lv_sipush (v := iI (-32768)) hx hb (D_17 W_prog_15_method_169_code_128 3 rfl rfl rfl) (by decide) ?_
  refine lv_sipush (v := iI 32767) hx hb (D_17 W_prog_15_method_169_code_128 6 rfl rfl rfl) (by decide) ?_
  obtain ⟨g19, hf⟩ := gif hf
  refine W.eq (g2 := F0 m 137 ls [.int (iI 32767), .int (iI (-32768)), .int (iI (s1 + s2)), .ref (ad 13 s0 0)]) (by rw [zrf_pos (ad := ad) (t := 13) g19.1]; try rfl) ?_
  obtain ⟨r20, F20, B20, hc20, hf⟩ := gbind hf
  refine va_calli (va_runS (As := [.int (iI (s1 + s2)), .int (iI (-32768)), .int (iI 32767)]) (rest := [.ref (ad 13 s0 0)]) ⟨hx, hb, hml, hown, hts⟩ (c_M_held (l := l) hc20) (va_cwS 3 hts (gdS k_14_1 k_14_2 k_1_9 k_14_3) rfl rfl rfl (by decide +kernel) ⟨Nat.le_of_ble_eq_true rfl, Nat.le_of_ble_eq_true rfl⟩) (zPS X hZ hS [.int (iI (s1 + s2)), .int (iI (-32768)), .int (iI 32767)]) rfl rfl hl.1 rfl (lv_room (Nat.le_of_ble_eq_true rfl)) (D_184 W_prog_15_method_169_code_128 9 rfl rfl rfl) ⟨Nat.le_of_ble_eq_true rfl, Nat.le_of_ble_eq_true rfl⟩) hS (fun q _ h => zAin X hS q h) (zAin X hS) (fun p20 u20 t20 H20 locs20 ht20 hv20 hw20 hB20 hz20 hk20 hS20 => ?_)
  have hZ20 := zBack X ht20 hB20
  subst hw20
  refine zput (ci := 13) (C := RX13) (T := TX13) (k := 68) (v := r20) (w := .int (iI r20)) hx hb hts inW_13 tyX13 tyX13_ok nmX13 hown hK hZ20 hS20 g19.1 g19.2 rfl (by decide) k_10_5 rfl (fun G h => congrArg (fun q => Value.int (iI q)) h) rfl rfl (zno (by decide)) (D_181 W_prog_15_method_169_code_128 12 rfl rfl rfl) (fun H21 locs21 hZ21 hS21 => ?_)
  refine lv_aload_n hx hb (D_43 W_prog_15_method_169_code_128 15 rfl rfl) rfl (lv_at hl 2 rfl) ?_
  refine lv_aload_n hx hb (D_43 W_prog_15_method_169_code_128 16 rfl rfl) rfl (lv_at hl 2 rfl) ?_
  obtain ⟨g22, hf⟩ := gif hf
  refine zget (ci := 13) (C := RX13) (T := TX13) (v := .int (iI (F20 13 l1 69))) (k := 69) hx hb hts inW_13 hown hK hZ21 g22.1 g22.2 rfl (by decide) k_10_6 (congrArg (fun q : Int => Value.int (iI q)) (show (zup3 F20 13 s0 68 r20) 13 l1 69 = F20 13 l1 69 by simp [zup3])) (D_180 W_prog_15_method_169_code_128 17 rfl rfl rfl) ?_
  refine lv_aload_n hx hb (D_42 W_prog_15_method_169_code_128 20 rfl rfl) rfl (lv_at hl 1 rfl) ?_
  refine zget (ci := 14) (C := RX14) (T := TX14) (v := .ref (ad 14 0 (97 + 1))) (k := 97) hx hb hts inW_14 hown hK hZ21 (by decide) (by decide) rfl (by decide) k_11_95 rfl (D_180 W_prog_15_method_169_code_128 21 rfl rfl rfl) ?_
  refine lv_iload hx hb (D_21 W_prog_15_method_169_code_128 24 rfl rfl) (lv_at hl 0 rfl) ?_
  refine lv_bipush (v := iI 8) hx hb (D_16 W_prog_15_method_169_code_128 26 rfl rfl rfl) (by decide) ?_
  refine zrm_r hx hb (by decide) (D_112 W_prog_15_method_169_code_128 28 rfl rfl) ?_
  obtain ⟨g23, hf⟩ := gif hf
  refine zald (ci := 14) (k := 97) hx hb hK rfl hZ21 (by decide) (by decide) rfl (Nat.le_of_ble_eq_true rfl) g23.1 g23.2 (D_46 W_prog_15_method_169_code_128 29 rfl rfl) ?_
  refine zadd hx hb (D_96 W_prog_15_method_169_code_128 30 rfl rfl) ?_
  refine lv_iconst (v := iI 0) hx hb (D_3 W_prog_15_method_169_code_128 31 rfl rfl) rfl ?_
  refine lv_bipush (v := iI 88) hx hb (D_16 W_prog_15_method_169_code_160 0 rfl rfl rfl) (by decide) ?_
  obtain ⟨r24, F24, B24, hc24, hf⟩ := gbind hf
  refine va_calli (va_runS (As := [.int (iI ((F20 13 l1 69) + (B20 14 0 97 (zrm l4 8)))), .int (iI 0), .int (iI 88)]) (rest := [.ref (ad 13 l1 0)]) ⟨hx, hb, hml, hown, hts⟩ (c_M_held (l := l) hc24) (va_cwS 3 hts (gdS k_14_1 k_14_2 k_1_9 k_14_3) rfl rfl rfl (by decide +kernel) ⟨Nat.le_of_ble_eq_true rfl, Nat.le_of_ble_eq_true rfl⟩) (zPS X hZ21 hS21 [.int (iI ((F20 13 l1 69) + (B20 14 0 97 (zrm l4 8)))), .int (iI 0), .int (iI 88)]) rfl rfl hl.1 rfl (lv_room (Nat.le_of_ble_eq_true rfl)) (D_184 W_prog_15_method_169_code_160 2 rfl rfl rfl) ⟨Nat.le_of_ble_eq_true rfl, Nat.le_of_ble_eq_true rfl⟩) hS21 (fun q _ h => zAin X hS21 q h) (zAin X hS21) (fun p24 u24 t24 H24 locs24 ht24 hv24 hw24 hB24 hz24 hk24 hS24 => ?_)
  have hZ24 := zBack X ht24 hB24
  subst hw24
  refine zput (ci := 13) (C := RX13) (T := TX13) (k := 69) (v := r24) (w := .int (iI r24)) hx hb hts inW_13 tyX13 tyX13_ok nmX13 hown hK hZ24 hS24 g22.1 g22.2 rfl (by decide) k_10_6 rfl (fun G h => congrArg (fun q => Value.int (iI q)) h) rfl rfl (zno (by decide)) (D_181 W_prog_15_method_169_code_160 5 rfl rfl rfl) (fun H25 locs25 hZ25 hS25 => ?_)
  refine lv_iload hx hb (D_21 W_prog_15_method_169_code_160 8 rfl rfl) (lv_at hl 0 rfl) ?_
  cases hf
  exact W.iret hx hb hr (fun t ht hW => ⟨⟨_, (), rfl, rfl, by rw [ht]; exact hZ25, va_K.moved hW.alike hK⟩, hS25.F ht⟩) hS25.2.2 (D_172 W_prog_15_method_169_code_160 10 rfl rfl) hlk

def f_M_coded_112 (K : Nat) (l6 : Int) (l5 : Int) (l4 : Int) (l1 : Int) (F : zF) (B : zB) : zO := if 0 ≤ l1 ∧ l1 < 3 then if r32 l5 then (if l5 = 0 then f_M_coded_130 K l4 l1 l1 (F 13 l1 68) l6 F B else f_M_coded_130 K l4 l1 l1 (F 13 l1 68) (-l6) F B) else none else none
set_option maxHeartbeats 4000000 in
set_option maxRecDepth 100000 in
theorem b_M_coded_112 {D : va_G} {ca : Nat → ClassId} {ad : Nat → Int → Nat → Nat} {L : List Nat} {aS vS : Nat → Nat} {A : Nat → Prop} {p : Program} {l : Launch} {e : Env} {s : State} {m : MethodId} {args : Array Value} {below : List Frame} {meth : Method} {c : Code} {K : Nat} {r : Int} {F9 : zF} {B9 : zB} (X : zX D ca L aS vS A p s m args meth c prog_15_method_169_code 7 (Option.some Jvm.ClassFile.FieldType.int) "StaveHouseModel") {l6 : Int} {l5 : Int} {l4 : Int} {l1 : Int} {F : zF} {B : zB} {H : Heap} {locs : List Loc} {ls : Array Slot} (hf : f_M_coded_112 K l6 l5 l4 l1 F B = some (r, F9, B9)) (hZ : zH D ca ad lnM nM L F B A H) (hS : va_S A s.heap H locs) (hl : lv_has ls 7 [(6, .int (iI l6)), (5, .int (iI l5)), (4, .int (iI l4)), (0, .ref (ad 14 0 0)), (1, .ref (ad 13 l1 0))]) : W p l e ({ frames := 1, cells := 0, slots := 0, locals := 22 } : Room) s m args below meth c H locs 0 0 (MQ below (Q_M_coded D ca ad L r F9 B9 A) args s 0 0 A) (F0 m 112 ls []) := by
  obtain ⟨hx, hb, hr, hml, hown, hts, hlk, hK, hA, hL, hX⟩ := id X
  replace hf : (if 0 ≤ l1 ∧ l1 < 3 then if r32 l5 then (if l5 = 0 then f_M_coded_130 K l4 l1 l1 (F 13 l1 68) l6 F B else f_M_coded_130 K l4 l1 l1 (F 13 l1 68) (-l6) F B) else none else none) = some (r, F9, B9) := hf
  refine lv_aload_n hx hb (D_43 W_prog_15_method_169_code_96 16 rfl rfl) rfl (lv_at hl 4 rfl) ?_
  refine lv_aload_n hx hb (D_43 W_prog_15_method_169_code_96 17 rfl rfl) rfl (lv_at hl 4 rfl) ?_
  obtain ⟨g16, hf⟩ := gif hf
  refine zget (ci := 13) (C := RX13) (T := TX13) (v := .int (iI (F 13 l1 68))) (k := 68) hx hb hts inW_13 hown hK hZ g16.1 g16.2 rfl (by decide) k_10_5 rfl (D_180 W_prog_15_method_169_code_96 18 rfl rfl rfl) ?_
  refine lv_iload hx hb (D_21 W_prog_15_method_169_code_96 21 rfl rfl) (lv_at hl 1 rfl) ?_
  obtain ⟨g17, hf⟩ := gif hf
  refine z0eq (tgt := 128) hx hb g17 (D_153 W_prog_15_method_169_code_96 23 rfl rfl rfl) (by decide) (fun h18 => ?_) (fun h18 => ?_)
  · replace hf := gpos hf h18
    refine lv_iload hx hb (D_21 W_prog_15_method_169_code_128 0 rfl rfl) (lv_at hl 0 rfl) ?_
    refine W.eq (g2 := F0 m 130 ls [.int (iI l6), .int (iI (F 13 l1 68)), va_rf (zrf ad 13 l1)]) (by rw [zrf_pos (ad := ad) (t := 13) g16.1]; try rfl) ?_
    exact b_M_coded_130 X hf hZ hS (lv_sub hl [2, 3, 4] rfl)
  · replace hf := gneg hf h18
    refine lv_iload hx hb (D_21 W_prog_15_method_169_code_96 26 rfl rfl) (lv_at hl 0 rfl) ?_
    refine zneg hx hb (D_116 W_prog_15_method_169_code_96 28 rfl rfl) ?_
    refine lv_goto (tgt := 130) hx hb (D_167 W_prog_15_method_169_code_96 29 rfl rfl rfl) (by decide) ?_
    refine W.eq (g2 := F0 m 130 ls [.int (iI (-l6)), .int (iI (F 13 l1 68)), va_rf (zrf ad 13 l1)]) (by rw [zrf_pos (ad := ad) (t := 13) g16.1]; try rfl) ?_
    exact b_M_coded_130 X hf hZ hS (lv_sub hl [2, 3, 4] rfl)

def f_M_coded_94 (K : Nat) (l6 : Int) (l5 : Int) (l4 : Int) (l3 : Int) (l2 : Int) (l1 : Int) (F : zF) (B : zB) : zO := if r32 l2 then if r32 (zdv l3 4) then (if l2 < (zdv l3 4) then f_M_coded_112 K l6 l5 l4 l1 F B else f_M_coded_112 K (l6 + (zdv l3 4)) l5 (l4 + 1) l1 F B) else none else none
set_option maxHeartbeats 4000000 in
set_option maxRecDepth 100000 in
theorem b_M_coded_94 {D : va_G} {ca : Nat → ClassId} {ad : Nat → Int → Nat → Nat} {L : List Nat} {aS vS : Nat → Nat} {A : Nat → Prop} {p : Program} {l : Launch} {e : Env} {s : State} {m : MethodId} {args : Array Value} {below : List Frame} {meth : Method} {c : Code} {K : Nat} {r : Int} {F9 : zF} {B9 : zB} (X : zX D ca L aS vS A p s m args meth c prog_15_method_169_code 7 (Option.some Jvm.ClassFile.FieldType.int) "StaveHouseModel") {l6 : Int} {l5 : Int} {l4 : Int} {l3 : Int} {l2 : Int} {l1 : Int} {F : zF} {B : zB} {H : Heap} {locs : List Loc} {ls : Array Slot} (hf : f_M_coded_94 K l6 l5 l4 l3 l2 l1 F B = some (r, F9, B9)) (hZ : zH D ca ad lnM nM L F B A H) (hS : va_S A s.heap H locs) (hl : lv_has ls 7 [(6, .int (iI l6)), (5, .int (iI l5)), (4, .int (iI l4)), (3, .int (iI l3)), (2, .int (iI l2)), (0, .ref (ad 14 0 0)), (1, .ref (ad 13 l1 0))]) : W p l e ({ frames := 1, cells := 0, slots := 0, locals := 22 } : Room) s m args below meth c H locs 0 0 (MQ below (Q_M_coded D ca ad L r F9 B9 A) args s 0 0 A) (F0 m 94 ls []) := by
  obtain ⟨hx, hb, hr, hml, hown, hts, hlk, hK, hA, hL, hX⟩ := id X
  replace hf : (if r32 l2 then if r32 (zdv l3 4) then (if l2 < (zdv l3 4) then f_M_coded_112 K l6 l5 l4 l1 F B else f_M_coded_112 K (l6 + (zdv l3 4)) l5 (l4 + 1) l1 F B) else none else none) = some (r, F9, B9) := hf
  refine lv_iload_n hx hb (D_28 W_prog_15_method_169_code_64 30 rfl rfl) rfl (lv_at hl 4 rfl) ?_
  refine lv_iload_n hx hb (D_29 W_prog_15_method_169_code_64 31 rfl rfl) rfl (lv_at hl 3 rfl) ?_
  refine lv_iconst (v := iI 4) hx hb (D_7 W_prog_15_method_169_code_96 0 rfl rfl) rfl ?_
  refine zdv_r hx hb (by decide) (D_108 W_prog_15_method_169_code_96 1 rfl rfl) ?_
  obtain ⟨g13, hf⟩ := gif hf
  obtain ⟨g14, hf⟩ := gif hf
  refine zlt (tgt := 112) hx hb g13 g14 (D_161 W_prog_15_method_169_code_96 2 rfl rfl rfl) (by decide) (fun h15 => ?_) (fun h15 => ?_)
  · replace hf := gpos hf h15
    exact b_M_coded_112 X hf hZ hS (lv_sub hl [0, 1, 2, 5, 6] rfl)
  · replace hf := gneg hf h15
    refine lv_iinc (v := iI (l4 + 1)) (lv' := [(4, .int (iI (l4 + 1))), (6, .int (iI l6)), (5, .int (iI l5)), (3, .int (iI l3)), (2, .int (iI l2)), (0, .ref (ad 14 0 0)), (1, .ref (ad 13 l1 0))]) hx hb d_15_169_101 hl (k := 2) rfl (iI_add _ 1) (by decide) rfl (fun ls hl => ?_)
    refine lv_iload hx hb (D_21 W_prog_15_method_169_code_96 8 rfl rfl) (lv_at hl 1 rfl) ?_
    refine lv_iload_n hx hb (D_29 W_prog_15_method_169_code_96 10 rfl rfl) rfl (lv_at hl 3 rfl) ?_
    refine lv_iconst (v := iI 4) hx hb (D_7 W_prog_15_method_169_code_96 11 rfl rfl) rfl ?_
    refine zdv_r hx hb (by decide) (D_108 W_prog_15_method_169_code_96 12 rfl rfl) ?_
    refine zadd hx hb (D_96 W_prog_15_method_169_code_96 13 rfl rfl) ?_
    refine lv_istore (lv' := [(6, .int (iI (l6 + (zdv l3 4)))), (4, .int (iI (l4 + 1))), (5, .int (iI l5)), (3, .int (iI l3)), (2, .int (iI l2)), (0, .ref (ad 14 0 0)), (1, .ref (ad 13 l1 0))]) hx hb (D_54 W_prog_15_method_169_code_96 14 rfl rfl) hl (by decide) rfl (fun ls hl => ?_)
    exact b_M_coded_112 X hf hZ hS (lv_sub hl [0, 2, 1, 5, 6] rfl)

def f_M_coded_70 (K : Nat) (l6 : Int) (l5 : Int) (l4 : Int) (l3 : Int) (l2 : Int) (l1 : Int) (F : zF) (B : zB) : zO := if r32 l2 then if r32 (zdv l3 2) then (if l2 < (zdv l3 2) then f_M_coded_94 K l6 l5 l4 l3 l2 l1 F B else f_M_coded_94 K (l6 + (zdv l3 2)) l5 (l4 + 2) l3 (l2 - (zdv l3 2)) l1 F B) else none else none
set_option maxHeartbeats 4000000 in
set_option maxRecDepth 100000 in
theorem b_M_coded_70 {D : va_G} {ca : Nat → ClassId} {ad : Nat → Int → Nat → Nat} {L : List Nat} {aS vS : Nat → Nat} {A : Nat → Prop} {p : Program} {l : Launch} {e : Env} {s : State} {m : MethodId} {args : Array Value} {below : List Frame} {meth : Method} {c : Code} {K : Nat} {r : Int} {F9 : zF} {B9 : zB} (X : zX D ca L aS vS A p s m args meth c prog_15_method_169_code 7 (Option.some Jvm.ClassFile.FieldType.int) "StaveHouseModel") {l6 : Int} {l5 : Int} {l4 : Int} {l3 : Int} {l2 : Int} {l1 : Int} {F : zF} {B : zB} {H : Heap} {locs : List Loc} {ls : Array Slot} (hf : f_M_coded_70 K l6 l5 l4 l3 l2 l1 F B = some (r, F9, B9)) (hZ : zH D ca ad lnM nM L F B A H) (hS : va_S A s.heap H locs) (hl : lv_has ls 7 [(6, .int (iI l6)), (5, .int (iI l5)), (4, .int (iI l4)), (3, .int (iI l3)), (2, .int (iI l2)), (0, .ref (ad 14 0 0)), (1, .ref (ad 13 l1 0))]) : W p l e ({ frames := 1, cells := 0, slots := 0, locals := 22 } : Room) s m args below meth c H locs 0 0 (MQ below (Q_M_coded D ca ad L r F9 B9 A) args s 0 0 A) (F0 m 70 ls []) := by
  obtain ⟨hx, hb, hr, hml, hown, hts, hlk, hK, hA, hL, hX⟩ := id X
  replace hf : (if r32 l2 then if r32 (zdv l3 2) then (if l2 < (zdv l3 2) then f_M_coded_94 K l6 l5 l4 l3 l2 l1 F B else f_M_coded_94 K (l6 + (zdv l3 2)) l5 (l4 + 2) l3 (l2 - (zdv l3 2)) l1 F B) else none else none) = some (r, F9, B9) := hf
  refine lv_iload_n hx hb (D_28 W_prog_15_method_169_code_64 6 rfl rfl) rfl (lv_at hl 4 rfl) ?_
  refine lv_iload_n hx hb (D_29 W_prog_15_method_169_code_64 7 rfl rfl) rfl (lv_at hl 3 rfl) ?_
  refine lv_iconst (v := iI 2) hx hb (D_5 W_prog_15_method_169_code_64 8 rfl rfl) rfl ?_
  refine zdv_r hx hb (by decide) (D_108 W_prog_15_method_169_code_64 9 rfl rfl) ?_
  obtain ⟨g10, hf⟩ := gif hf
  obtain ⟨g11, hf⟩ := gif hf
  refine zlt (tgt := 94) hx hb g10 g11 (D_161 W_prog_15_method_169_code_64 10 rfl rfl rfl) (by decide) (fun h12 => ?_) (fun h12 => ?_)
  · replace hf := gpos hf h12
    exact b_M_coded_94 X hf hZ hS (lv_sub hl [0, 1, 2, 3, 4, 5, 6] rfl)
  · replace hf := gneg hf h12
    refine lv_iinc (v := iI (l4 + 2)) (lv' := [(4, .int (iI (l4 + 2))), (6, .int (iI l6)), (5, .int (iI l5)), (3, .int (iI l3)), (2, .int (iI l2)), (0, .ref (ad 14 0 0)), (1, .ref (ad 13 l1 0))]) hx hb d_15_169_77 hl (k := 2) rfl (iI_add _ 2) (by decide) rfl (fun ls hl => ?_)
    refine lv_iload_n hx hb (D_28 W_prog_15_method_169_code_64 16 rfl rfl) rfl (lv_at hl 4 rfl) ?_
    refine lv_iload_n hx hb (D_29 W_prog_15_method_169_code_64 17 rfl rfl) rfl (lv_at hl 3 rfl) ?_
    refine lv_iconst (v := iI 2) hx hb (D_5 W_prog_15_method_169_code_64 18 rfl rfl) rfl ?_
    refine zdv_r hx hb (by decide) (D_108 W_prog_15_method_169_code_64 19 rfl rfl) ?_
    refine zsub hx hb (D_100 W_prog_15_method_169_code_64 20 rfl rfl) ?_
    refine lv_istore_n (lv' := [(2, .int (iI (l2 - (zdv l3 2)))), (4, .int (iI (l4 + 2))), (6, .int (iI l6)), (5, .int (iI l5)), (3, .int (iI l3)), (0, .ref (ad 14 0 0)), (1, .ref (ad 13 l1 0))]) hx hb (D_61 W_prog_15_method_169_code_64 21 rfl rfl) rfl hl (by decide) rfl (fun ls hl => ?_)
    refine lv_iload hx hb (D_21 W_prog_15_method_169_code_64 22 rfl rfl) (lv_at hl 2 rfl) ?_
    refine lv_iload_n hx hb (D_29 W_prog_15_method_169_code_64 24 rfl rfl) rfl (lv_at hl 4 rfl) ?_
    refine lv_iconst (v := iI 2) hx hb (D_5 W_prog_15_method_169_code_64 25 rfl rfl) rfl ?_
    refine zdv_r hx hb (by decide) (D_108 W_prog_15_method_169_code_64 26 rfl rfl) ?_
    refine zadd hx hb (D_96 W_prog_15_method_169_code_64 27 rfl rfl) ?_
    refine lv_istore (lv' := [(6, .int (iI (l6 + (zdv l3 2)))), (2, .int (iI (l2 - (zdv l3 2)))), (4, .int (iI (l4 + 2))), (5, .int (iI l5)), (3, .int (iI l3)), (0, .ref (ad 14 0 0)), (1, .ref (ad 13 l1 0))]) hx hb (D_54 W_prog_15_method_169_code_64 28 rfl rfl) hl (by decide) rfl (fun ls hl => ?_)
    exact b_M_coded_94 X hf hZ hS (lv_sub hl [0, 3, 2, 4, 1, 5, 6] rfl)

def f_M_coded_46 (K : Nat) (l5 : Int) (l4 : Int) (l3 : Int) (l2 : Int) (l1 : Int) (F : zF) (B : zB) : zO := if r32 l2 then if r32 l3 then (if l2 < l3 then f_M_coded_70 K (zdv l3 8) l5 l4 l3 l2 l1 F B else f_M_coded_70 K ((zdv l3 8) + l3) l5 (l4 + 4) l3 (l2 - l3) l1 F B) else none else none
set_option maxHeartbeats 4000000 in
set_option maxRecDepth 100000 in
theorem b_M_coded_46 {D : va_G} {ca : Nat → ClassId} {ad : Nat → Int → Nat → Nat} {L : List Nat} {aS vS : Nat → Nat} {A : Nat → Prop} {p : Program} {l : Launch} {e : Env} {s : State} {m : MethodId} {args : Array Value} {below : List Frame} {meth : Method} {c : Code} {K : Nat} {r : Int} {F9 : zF} {B9 : zB} (X : zX D ca L aS vS A p s m args meth c prog_15_method_169_code 7 (Option.some Jvm.ClassFile.FieldType.int) "StaveHouseModel") {l5 : Int} {l4 : Int} {l3 : Int} {l2 : Int} {l1 : Int} {F : zF} {B : zB} {H : Heap} {locs : List Loc} {ls : Array Slot} (hf : f_M_coded_46 K l5 l4 l3 l2 l1 F B = some (r, F9, B9)) (hZ : zH D ca ad lnM nM L F B A H) (hS : va_S A s.heap H locs) (hl : lv_has ls 7 [(5, .int (iI l5)), (4, .int (iI l4)), (3, .int (iI l3)), (2, .int (iI l2)), (0, .ref (ad 14 0 0)), (1, .ref (ad 13 l1 0))]) : W p l e ({ frames := 1, cells := 0, slots := 0, locals := 22 } : Room) s m args below meth c H locs 0 0 (MQ below (Q_M_coded D ca ad L r F9 B9 A) args s 0 0 A) (F0 m 46 ls []) := by
  obtain ⟨hx, hb, hr, hml, hown, hts, hlk, hK, hA, hL, hX⟩ := id X
  replace hf : (if r32 l2 then if r32 l3 then (if l2 < l3 then f_M_coded_70 K (zdv l3 8) l5 l4 l3 l2 l1 F B else f_M_coded_70 K ((zdv l3 8) + l3) l5 (l4 + 4) l3 (l2 - l3) l1 F B) else none else none) = some (r, F9, B9) := hf
  refine lv_iload_n hx hb (D_29 W_prog_15_method_169_code_32 14 rfl rfl) rfl (lv_at hl 2 rfl) ?_
  refine lv_bipush (v := iI 8) hx hb (D_16 W_prog_15_method_169_code_32 15 rfl rfl rfl) (by decide) ?_
  refine zdv_r hx hb (by decide) (D_108 W_prog_15_method_169_code_32 17 rfl rfl) ?_
  refine lv_istore (lv' := [(6, .int (iI (zdv l3 8))), (5, .int (iI l5)), (4, .int (iI l4)), (3, .int (iI l3)), (2, .int (iI l2)), (0, .ref (ad 14 0 0)), (1, .ref (ad 13 l1 0))]) hx hb (D_54 W_prog_15_method_169_code_32 18 rfl rfl) hl (by decide) rfl (fun ls hl => ?_)
  refine lv_iload_n hx hb (D_28 W_prog_15_method_169_code_32 20 rfl rfl) rfl (lv_at hl 4 rfl) ?_
  refine lv_iload_n hx hb (D_29 W_prog_15_method_169_code_32 21 rfl rfl) rfl (lv_at hl 3 rfl) ?_
  obtain ⟨g7, hf⟩ := gif hf
  obtain ⟨g8, hf⟩ := gif hf
  refine zlt (tgt := 70) hx hb g7 g8 (D_161 W_prog_15_method_169_code_32 22 rfl rfl rfl) (by decide) (fun h9 => ?_) (fun h9 => ?_)
  · replace hf := gpos hf h9
    exact b_M_coded_70 X hf hZ hS (lv_sub hl [0, 1, 2, 3, 4, 5, 6] rfl)
  · replace hf := gneg hf h9
    refine lv_iinc (v := iI (l4 + 4)) (lv' := [(4, .int (iI (l4 + 4))), (6, .int (iI (zdv l3 8))), (5, .int (iI l5)), (3, .int (iI l3)), (2, .int (iI l2)), (0, .ref (ad 14 0 0)), (1, .ref (ad 13 l1 0))]) hx hb d_15_169_57 hl (k := 2) rfl (iI_add _ 4) (by decide) rfl (fun ls hl => ?_)
    refine lv_iload_n hx hb (D_28 W_prog_15_method_169_code_32 28 rfl rfl) rfl (lv_at hl 4 rfl) ?_
    refine lv_iload_n hx hb (D_29 W_prog_15_method_169_code_32 29 rfl rfl) rfl (lv_at hl 3 rfl) ?_
    refine zsub hx hb (D_100 W_prog_15_method_169_code_32 30 rfl rfl) ?_
    refine lv_istore_n (lv' := [(2, .int (iI (l2 - l3))), (4, .int (iI (l4 + 4))), (6, .int (iI (zdv l3 8))), (5, .int (iI l5)), (3, .int (iI l3)), (0, .ref (ad 14 0 0)), (1, .ref (ad 13 l1 0))]) hx hb (D_61 W_prog_15_method_169_code_32 31 rfl rfl) rfl hl (by decide) rfl (fun ls hl => ?_)
    refine lv_iload hx hb (D_21 W_prog_15_method_169_code_64 0 rfl rfl) (lv_at hl 2 rfl) ?_
    refine lv_iload_n hx hb (D_29 W_prog_15_method_169_code_64 2 rfl rfl) rfl (lv_at hl 4 rfl) ?_
    refine zadd hx hb (D_96 W_prog_15_method_169_code_64 3 rfl rfl) ?_
    refine lv_istore (lv' := [(6, .int (iI ((zdv l3 8) + l3))), (2, .int (iI (l2 - l3))), (4, .int (iI (l4 + 4))), (5, .int (iI l5)), (3, .int (iI l3)), (0, .ref (ad 14 0 0)), (1, .ref (ad 13 l1 0))]) hx hb (D_54 W_prog_15_method_169_code_64 4 rfl rfl) hl (by decide) rfl (fun ls hl => ?_)
    exact b_M_coded_70 X hf hZ hS (lv_sub hl [0, 3, 2, 4, 1, 5, 6] rfl)

def f_M_coded_32 (K : Nat) (l4 : Int) (l3 : Int) (l2 : Int) (l1 : Int) (s0 : Int) (F : zF) (B : zB) : zO := if r32 s0 then (if s0 = 0 then f_M_coded_46 K s0 l4 l3 l2 l1 F B else f_M_coded_46 K s0 8 l3 (-l2) l1 F B) else none
set_option maxHeartbeats 4000000 in
set_option maxRecDepth 100000 in
theorem b_M_coded_32 {D : va_G} {ca : Nat → ClassId} {ad : Nat → Int → Nat → Nat} {L : List Nat} {aS vS : Nat → Nat} {A : Nat → Prop} {p : Program} {l : Launch} {e : Env} {s : State} {m : MethodId} {args : Array Value} {below : List Frame} {meth : Method} {c : Code} {K : Nat} {r : Int} {F9 : zF} {B9 : zB} (X : zX D ca L aS vS A p s m args meth c prog_15_method_169_code 7 (Option.some Jvm.ClassFile.FieldType.int) "StaveHouseModel") {l4 : Int} {l3 : Int} {l2 : Int} {l1 : Int} {s0 : Int} {F : zF} {B : zB} {H : Heap} {locs : List Loc} {ls : Array Slot} (hf : f_M_coded_32 K l4 l3 l2 l1 s0 F B = some (r, F9, B9)) (hZ : zH D ca ad lnM nM L F B A H) (hS : va_S A s.heap H locs) (hl : lv_has ls 7 [(4, .int (iI l4)), (3, .int (iI l3)), (2, .int (iI l2)), (0, .ref (ad 14 0 0)), (1, .ref (ad 13 l1 0))]) : W p l e ({ frames := 1, cells := 0, slots := 0, locals := 22 } : Room) s m args below meth c H locs 0 0 (MQ below (Q_M_coded D ca ad L r F9 B9 A) args s 0 0 A) (F0 m 32 ls [.int (iI s0)]) := by
  obtain ⟨hx, hb, hr, hml, hown, hts, hlk, hK, hA, hL, hX⟩ := id X
  replace hf : (if r32 s0 then (if s0 = 0 then f_M_coded_46 K s0 l4 l3 l2 l1 F B else f_M_coded_46 K s0 8 l3 (-l2) l1 F B) else none) = some (r, F9, B9) := hf
  refine lv_istore (lv' := [(5, .int (iI s0)), (4, .int (iI l4)), (3, .int (iI l3)), (2, .int (iI l2)), (0, .ref (ad 14 0 0)), (1, .ref (ad 13 l1 0))]) hx hb (D_54 W_prog_15_method_169_code_32 0 rfl rfl) hl (by decide) rfl (fun ls hl => ?_)
  refine lv_iload hx hb (D_21 W_prog_15_method_169_code_32 2 rfl rfl) (lv_at hl 0 rfl) ?_
  obtain ⟨g5, hf⟩ := gif hf
  refine z0eq (tgt := 46) hx hb g5 (D_153 W_prog_15_method_169_code_32 4 rfl rfl rfl) (by decide) (fun h6 => ?_) (fun h6 => ?_)
  · replace hf := gpos hf h6
    exact b_M_coded_46 X hf hZ hS (lv_sub hl [0, 1, 2, 3, 4, 5] rfl)
  · replace hf := gneg hf h6
    refine lv_bipush (v := iI 8) hx hb (D_16 W_prog_15_method_169_code_32 7 rfl rfl rfl) (by decide) ?_
    refine lv_istore (lv' := [(4, .int (iI 8)), (5, .int (iI s0)), (3, .int (iI l3)), (2, .int (iI l2)), (0, .ref (ad 14 0 0)), (1, .ref (ad 13 l1 0))]) hx hb (D_54 W_prog_15_method_169_code_32 9 rfl rfl) hl (by decide) rfl (fun ls hl => ?_)
    refine lv_iload_n hx hb (D_28 W_prog_15_method_169_code_32 11 rfl rfl) rfl (lv_at hl 3 rfl) ?_
    refine zneg hx hb (D_116 W_prog_15_method_169_code_32 12 rfl rfl) ?_
    refine lv_istore_n (lv' := [(2, .int (iI (-l2))), (4, .int (iI 8)), (5, .int (iI s0)), (3, .int (iI l3)), (0, .ref (ad 14 0 0)), (1, .ref (ad 13 l1 0))]) hx hb (D_61 W_prog_15_method_169_code_32 13 rfl rfl) rfl hl (by decide) rfl (fun ls hl => ?_)
    exact b_M_coded_46 X hf hZ hS (lv_sub hl [2, 1, 3, 0, 4, 5] rfl)

def f_M_coded (K : Nat) (l1 : Int) (F : zF) (B : zB) : zO := if 0 ≤ l1 ∧ l1 < 3 then if 0 ≤ (F 13 l1 69) ∧ (F 13 l1 69) < 89 then if r32 ((F 13 l1 67) - (F 13 l1 68)) then (if 0 ≤ ((F 13 l1 67) - (F 13 l1 68)) then f_M_coded_32 K 0 (B 14 0 96 (F 13 l1 69)) ((F 13 l1 67) - (F 13 l1 68)) l1 0 F B else f_M_coded_32 K 0 (B 14 0 96 (F 13 l1 69)) ((F 13 l1 67) - (F 13 l1 68)) l1 1 F B) else none else none else none
set_option maxHeartbeats 4000000 in
set_option maxRecDepth 100000 in
theorem c_M_coded {l : Launch} {D : va_G} {ca : Nat → ClassId} {ad : Nat → Int → Nat → Nat} {L : List Nat} {aS vS : Nat → Nat} {sz K : Nat}  {l1 : Int} {F F9 : zF} {B B9 : zB} {r : Int} (hf : f_M_coded K l1 F B = some (r, F9, B9)) : Met l ({ cls := "StaveHouseModel", name := "coded", desc := "(LStaveHouseModel$Piece;)I" } : Jvm.MethodName) (Cond.code ({ cls := "StaveHouseModel", name := "coded", desc := "(LStaveHouseModel$Piece;)I" } : Jvm.MethodName) prog_15_method_169_code 7 (Option.some Jvm.ClassFile.FieldType.int) :: wAll) ({ frames := 1, cells := 0, slots := 0, locals := 22 } : Room) (va_Pc [.ref (ad 14 0 0), .ref (ad 13 l1 0)] (zPre D ca ad lnM nM L aS vS F B sz)) (Q_M_coded D ca ad L r F9 B9 (zA L sz)) 0 0 (zA L sz) := by
  refine zMet (Qc := Q_M_coded D ca ad L r F9 B9) (lv := [(0, .ref (ad 14 0 0)), (1, .ref (ad 13 l1 0))]) (by decide) (Nat.le_of_ble_eq_true rfl) rfl (fun A p e s m below meth c ls X hZ hS hl => ?_)
  obtain ⟨hx, hb, hr, hml, hown, hts, hlk, hK, hA, hL, hX⟩ := id X
  replace hf : (if 0 ≤ l1 ∧ l1 < 3 then if 0 ≤ (F 13 l1 69) ∧ (F 13 l1 69) < 89 then if r32 ((F 13 l1 67) - (F 13 l1 68)) then (if 0 ≤ ((F 13 l1 67) - (F 13 l1 68)) then f_M_coded_32 K 0 (B 14 0 96 (F 13 l1 69)) ((F 13 l1 67) - (F 13 l1 68)) l1 0 F B else f_M_coded_32 K 0 (B 14 0 96 (F 13 l1 69)) ((F 13 l1 67) - (F 13 l1 68)) l1 1 F B) else none else none else none) = some (r, F9, B9) := hf
  refine lv_aload_n hx hb (D_43 W_prog_15_method_169_code_0 0 rfl rfl) rfl (lv_at hl 1 rfl) ?_
  obtain ⟨g1, hf⟩ := gif hf
  refine zget (ci := 13) (C := RX13) (T := TX13) (v := .int (iI (F 13 l1 67))) (k := 67) hx hb hts inW_13 hown hK hZ g1.1 g1.2 rfl (by decide) k_10_4 rfl (D_180 W_prog_15_method_169_code_0 1 rfl rfl rfl) ?_
  refine lv_aload_n hx hb (D_43 W_prog_15_method_169_code_0 4 rfl rfl) rfl (lv_at hl 1 rfl) ?_
  refine zget (ci := 13) (C := RX13) (T := TX13) (v := .int (iI (F 13 l1 68))) (k := 68) hx hb hts inW_13 hown hK hZ g1.1 g1.2 rfl (by decide) k_10_5 rfl (D_180 W_prog_15_method_169_code_0 5 rfl rfl rfl) ?_
  refine zsub hx hb (D_100 W_prog_15_method_169_code_0 8 rfl rfl) ?_
  refine lv_istore_n (lv' := [(2, .int (iI ((F 13 l1 67) - (F 13 l1 68)))), (0, .ref (ad 14 0 0)), (1, .ref (ad 13 l1 0))]) hx hb (D_61 W_prog_15_method_169_code_0 9 rfl rfl) rfl hl (by decide) rfl (fun ls hl => ?_)
  refine lv_aload_n hx hb (D_42 W_prog_15_method_169_code_0 10 rfl rfl) rfl (lv_at hl 1 rfl) ?_
  refine zget (ci := 14) (C := RX14) (T := TX14) (v := .ref (ad 14 0 (96 + 1))) (k := 96) hx hb hts inW_14 hown hK hZ (by decide) (by decide) rfl (by decide) k_11_94 rfl (D_180 W_prog_15_method_169_code_0 11 rfl rfl rfl) ?_
  refine lv_aload_n hx hb (D_43 W_prog_15_method_169_code_0 14 rfl rfl) rfl (lv_at hl 2 rfl) ?_
  refine zget (ci := 13) (C := RX13) (T := TX13) (v := .int (iI (F 13 l1 69))) (k := 69) hx hb hts inW_13 hown hK hZ g1.1 g1.2 rfl (by decide) k_10_6 rfl (D_180 W_prog_15_method_169_code_0 15 rfl rfl rfl) ?_
  obtain ⟨g2, hf⟩ := gif hf
  refine zald (ci := 14) (k := 96) hx hb hK rfl hZ (by decide) (by decide) rfl (Nat.le_of_ble_eq_true rfl) g2.1 g2.2 (D_46 W_prog_15_method_169_code_0 18 rfl rfl) ?_
  refine lv_istore_n (lv' := [(3, .int (iI (B 14 0 96 (F 13 l1 69)))), (2, .int (iI ((F 13 l1 67) - (F 13 l1 68)))), (0, .ref (ad 14 0 0)), (1, .ref (ad 13 l1 0))]) hx hb (D_62 W_prog_15_method_169_code_0 19 rfl rfl) rfl hl (by decide) rfl (fun ls hl => ?_)
  refine lv_iconst (v := iI 0) hx hb (D_3 W_prog_15_method_169_code_0 20 rfl rfl) rfl ?_
  refine lv_istore (lv' := [(4, .int (iI 0)), (3, .int (iI (B 14 0 96 (F 13 l1 69)))), (2, .int (iI ((F 13 l1 67) - (F 13 l1 68)))), (0, .ref (ad 14 0 0)), (1, .ref (ad 13 l1 0))]) hx hb (D_54 W_prog_15_method_169_code_0 21 rfl rfl) hl (by decide) rfl (fun ls hl => ?_)
  refine lv_iload_n hx hb (D_28 W_prog_15_method_169_code_0 23 rfl rfl) rfl (lv_at hl 2 rfl) ?_
  obtain ⟨g3, hf⟩ := gif hf
  refine z0ge (tgt := 31) hx hb g3 (D_156 W_prog_15_method_169_code_0 24 rfl rfl rfl) (by decide) (fun h4 => ?_) (fun h4 => ?_)
  · replace hf := gpos hf h4
    refine lv_iconst (v := iI 0) hx hb (D_3 W_prog_15_method_169_code_0 31 rfl rfl) rfl ?_
    exact b_M_coded_32 X hf hZ hS (lv_sub hl [0, 1, 2, 3, 4] rfl)
  · replace hf := gneg hf h4
    refine lv_iconst (v := iI 1) hx hb (D_4 W_prog_15_method_169_code_0 27 rfl rfl) rfl ?_
    refine lv_goto (tgt := 32) hx hb (D_167 W_prog_15_method_169_code_0 28 rfl rfl rfl) (by decide) ?_
    exact b_M_coded_32 X hf hZ hS (lv_sub hl [0, 1, 2, 3, 4] rfl)

abbrev Q_M_sample (D : va_G) (ca : Nat → ClassId) (ad : Nat → Int → Nat → Nat) (L : List Nat) (r : Int) (F : zF) (B : zB) (A : Nat → Prop) : Array Value → State → Outcome → State → Prop := va_Qi (S := Unit) (fun p _ => p = iI r) (fun _ => zPo D ca ad lnM nM L F B A) A
def f_M_sample_69 (K : Nat) (s0 : Int) (F : zF) (B : zB) : zO := some (s0, F, B)
set_option maxHeartbeats 4000000 in
set_option maxRecDepth 100000 in
theorem b_M_sample_69 {D : va_G} {ca : Nat → ClassId} {ad : Nat → Int → Nat → Nat} {L : List Nat} {aS vS : Nat → Nat} {A : Nat → Prop} {p : Program} {l : Launch} {e : Env} {s : State} {m : MethodId} {args : Array Value} {below : List Frame} {meth : Method} {c : Code} {K : Nat} {r : Int} {F9 : zF} {B9 : zB} (X : zX D ca L aS vS A p s m args meth c prog_15_method_170_code 5 (Option.some Jvm.ClassFile.FieldType.int) "StaveHouseModel") {s0 : Int} {F : zF} {B : zB} {H : Heap} {locs : List Loc} {ls : Array Slot} (hf : f_M_sample_69 K s0 F B = some (r, F9, B9)) (hZ : zH D ca ad lnM nM L F B A H) (hS : va_S A s.heap H locs) (hl : lv_has ls 5 []) : W p l e ({ frames := 1, cells := 0, slots := 0, locals := 21 } : Room) s m args below meth c H locs 0 0 (MQ below (Q_M_sample D ca ad L r F9 B9 A) args s 0 0 A) (F0 m 69 ls [.int (iI s0)]) := by
  obtain ⟨hx, hb, hr, hml, hown, hts, hlk, hK, hA, hL, hX⟩ := id X
  replace hf : (some (s0, F, B)) = some (r, F9, B9) := hf
  cases hf
  exact W.iret hx hb hr (fun t ht hW => ⟨⟨_, (), rfl, rfl, by rw [ht]; exact hZ, va_K.moved hW.alike hK⟩, hS.F ht⟩) hS.2.2 (D_172 W_prog_15_method_170_code_64 5 rfl rfl) hlk

def f_M_sample_33 (K : Nat)  (F : zF) (B : zB) : zO := some ((-2147483648), F, B)
set_option maxHeartbeats 4000000 in
set_option maxRecDepth 100000 in
theorem b_M_sample_33 {D : va_G} {ca : Nat → ClassId} {ad : Nat → Int → Nat → Nat} {L : List Nat} {aS vS : Nat → Nat} {A : Nat → Prop} {p : Program} {l : Launch} {e : Env} {s : State} {m : MethodId} {args : Array Value} {below : List Frame} {meth : Method} {c : Code} {K : Nat} {r : Int} {F9 : zF} {B9 : zB} (X : zX D ca L aS vS A p s m args meth c prog_15_method_170_code 5 (Option.some Jvm.ClassFile.FieldType.int) "StaveHouseModel")  {F : zF} {B : zB} {H : Heap} {locs : List Loc} {ls : Array Slot} (hf : f_M_sample_33 K  F B = some (r, F9, B9)) (hZ : zH D ca ad lnM nM L F B A H) (hS : va_S A s.heap H locs) (hl : lv_has ls 5 []) : W p l e ({ frames := 1, cells := 0, slots := 0, locals := 21 } : Room) s m args below meth c H locs 0 0 (MQ below (Q_M_sample D ca ad L r F9 B9 A) args s 0 0 A) (F0 m 33 ls []) := by
  obtain ⟨hx, hb, hr, hml, hown, hts, hlk, hK, hA, hL, hX⟩ := id X
  replace hf : (some ((-2147483648), F, B)) = some (r, F9, B9) := hf
  refine lv_ldcw hx hb hown (hts _ k_13_68) (D_19 W_prog_15_method_170_code_32 1 rfl rfl rfl) ?_
  refine W.eq (g2 := F0 m 36 ls [.int (iI (-2147483648))]) rfl ?_
  cases hf
  exact W.iret hx hb hr (fun t ht hW => ⟨⟨_, (), rfl, rfl, by rw [ht]; exact hZ, va_K.moved hW.alike hK⟩, hS.F ht⟩) hS.2.2 (D_172 W_prog_15_method_170_code_32 4 rfl rfl) hlk

def f_M_sample (K : Nat) (l1 : Int) (l2 : Int) (l3 : Int) (F : zF) (B : zB) : zO := zbind (f_M_piece K l1 F B) (fun r1 F1 B1 => (if r1 < 0 then f_M_sample_33 K F1 B1 else if 0 ≤ r1 ∧ r1 < 3 then if r32 (F1 13 r1 53) then (if (F1 13 r1 53) = 0 then f_M_sample_33 K F1 B1 else if r32 l2 then (if l2 < 0 then f_M_sample_33 K F1 B1 else if r32 (F1 13 r1 66) then (if l2 < (F1 13 r1 66) then if r32 l3 then (if l3 = 0 then if 0 ≤ l2 ∧ l2 < 1000 then f_M_sample_69 K (B1 13 r1 70 l2) F1 B1 else none else (if l3 = 1 then if 0 ≤ l2 ∧ l2 < 1000 then f_M_sample_69 K (B1 13 r1 71 l2) F1 B1 else none else f_M_sample_69 K (-2147483648) F1 B1)) else none else f_M_sample_33 K F1 B1) else none) else none) else none else none))
set_option maxHeartbeats 4000000 in
set_option maxRecDepth 100000 in
theorem c_M_sample {l : Launch} {D : va_G} {ca : Nat → ClassId} {ad : Nat → Int → Nat → Nat} {L : List Nat} {aS vS : Nat → Nat} {sz K : Nat}  {l1 : Int} {l2 : Int} {l3 : Int} {F F9 : zF} {B B9 : zB} {r : Int} (hf : f_M_sample K l1 l2 l3 F B = some (r, F9, B9)) : Met l ({ cls := "StaveHouseModel", name := "sample", desc := "(III)I" } : Jvm.MethodName) (Cond.code ({ cls := "StaveHouseModel", name := "sample", desc := "(III)I" } : Jvm.MethodName) prog_15_method_170_code 5 (Option.some Jvm.ClassFile.FieldType.int) :: wAll) ({ frames := 1, cells := 0, slots := 0, locals := 21 } : Room) (va_Pc [.ref (ad 14 0 0), .int (iI l1), .int (iI l2), .int (iI l3)] (zPre D ca ad lnM nM L aS vS F B sz)) (Q_M_sample D ca ad L r F9 B9 (zA L sz)) 0 0 (zA L sz) := by
  refine zMet (Qc := Q_M_sample D ca ad L r F9 B9) (lv := [(0, .ref (ad 14 0 0)), (1, .int (iI l1)), (2, .int (iI l2)), (3, .int (iI l3))]) (by decide) (Nat.le_of_ble_eq_true rfl) rfl (fun A p e s m below meth c ls X hZ hS hl => ?_)
  obtain ⟨hx, hb, hr, hml, hown, hts, hlk, hK, hA, hL, hX⟩ := id X
  replace hf : (zbind (f_M_piece K l1 F B) (fun r1 F1 B1 => (if r1 < 0 then f_M_sample_33 K F1 B1 else if 0 ≤ r1 ∧ r1 < 3 then if r32 (F1 13 r1 53) then (if (F1 13 r1 53) = 0 then f_M_sample_33 K F1 B1 else if r32 l2 then (if l2 < 0 then f_M_sample_33 K F1 B1 else if r32 (F1 13 r1 66) then (if l2 < (F1 13 r1 66) then if r32 l3 then (if l3 = 0 then if 0 ≤ l2 ∧ l2 < 1000 then f_M_sample_69 K (B1 13 r1 70 l2) F1 B1 else none else (if l3 = 1 then if 0 ≤ l2 ∧ l2 < 1000 then f_M_sample_69 K (B1 13 r1 71 l2) F1 B1 else none else f_M_sample_69 K (-2147483648) F1 B1)) else none else f_M_sample_33 K F1 B1) else none) else none) else none else none))) = some (r, F9, B9) := hf
  refine lv_aload_n hx hb (D_42 W_prog_15_method_170_code_0 0 rfl rfl) rfl (lv_at hl 0 rfl) ?_
  refine lv_iload_n hx hb (D_27 W_prog_15_method_170_code_0 1 rfl rfl) rfl (lv_at hl 1 rfl) ?_
  obtain ⟨r1, F1, B1, hc1, hf⟩ := gbind hf
  refine va_callq (va_runV (As := [.int (iI l1)]) (rest := []) ⟨hx, hb, hml, hown, hts⟩ (c_M_piece (l := l) hc1) (cwV 1 hts (gdV k_12_92 k_12_94 ks_131 k_1_9 k_12_95) rfl rfl rfl (by decide +kernel) ⟨Nat.le_of_ble_eq_true rfl, Nat.le_of_ble_eq_true rfl⟩) (zPV X hZ hS (ci := 14) (by decide) (by decide) (r := (RX14, TX14, 107)) rfl [.int (iI l1)]) rfl rfl hl.1 rfl (lv_room (Nat.le_of_ble_eq_true rfl)) (D_182 W_prog_15_method_170_code_0 2 rfl rfl rfl) ⟨Nat.le_of_ble_eq_true rfl, Nat.le_of_ble_eq_true rfl⟩) hS (fun q _ h => zAin X hS q h) (zAin X hS) (fun p1 u1 t1 H1 locs1 ht1 hv1 hw1 hB1 hz1 hk1 hS1 => ?_)
  have hZ1 := zBack X ht1 hB1
  subst hw1
  refine zastore (lv' := [(0, .ref (ad 14 0 0)), (1, .int (iI l1)), (2, .int (iI l2)), (3, .int (iI l3))]) hx hb (D_58 W_prog_15_method_170_code_0 5 rfl rfl) hl (by decide) (fun _ _ => rfl) (fun ls hl => ?_)
  refine zaload hx hb (D_25 W_prog_15_method_170_code_0 7 rfl rfl) (lv_at hl 0 rfl) ?_
  refine zifnull (tgt := 33) hx hb (D_198 W_prog_15_method_170_code_0 9 rfl rfl rfl) (by decide) (fun h2 => ?_) (fun h2 => ?_)
  · replace hf := gpos hf h2
    exact b_M_sample_33 X hf hZ1 hS1 (lv_sub hl [] rfl)
  · replace hf := gneg hf h2
    refine zaload hx hb (D_25 W_prog_15_method_170_code_0 12 rfl rfl) (lv_at hl 0 rfl) ?_
    obtain ⟨g3, hf⟩ := gif hf
    refine zunrf g3.1 ?_
    refine zget (ci := 13) (C := RX13) (T := TX13) (v := .int (iI (F1 13 r1 53))) (k := 53) hx hb hts inW_13 hown hK hZ1 g3.1 g3.2 rfl (by decide) k_9_221 rfl (D_180 W_prog_15_method_170_code_0 14 rfl rfl rfl) ?_
    obtain ⟨g4, hf⟩ := gif hf
    refine z0eq (tgt := 33) hx hb g4 (D_153 W_prog_15_method_170_code_0 17 rfl rfl rfl) (by decide) (fun h5 => ?_) (fun h5 => ?_)
    · replace hf := gpos hf h5
      exact b_M_sample_33 X hf hZ1 hS1 (lv_sub hl [] rfl)
    · replace hf := gneg hf h5
      refine lv_iload_n hx hb (D_28 W_prog_15_method_170_code_0 20 rfl rfl) rfl (lv_at hl 3 rfl) ?_
      obtain ⟨g6, hf⟩ := gif hf
      refine z0lt (tgt := 33) hx hb g6 (D_155 W_prog_15_method_170_code_0 21 rfl rfl rfl) (by decide) (fun h7 => ?_) (fun h7 => ?_)
      · replace hf := gpos hf h7
        exact b_M_sample_33 X hf hZ1 hS1 (lv_sub hl [] rfl)
      · replace hf := gneg hf h7
        refine lv_iload_n hx hb (D_28 W_prog_15_method_170_code_0 24 rfl rfl) rfl (lv_at hl 3 rfl) ?_
        refine zaload hx hb (D_25 W_prog_15_method_170_code_0 25 rfl rfl) (lv_at hl 0 rfl) ?_
        refine zunrf g3.1 ?_
        refine zget (ci := 13) (C := RX13) (T := TX13) (v := .int (iI (F1 13 r1 66))) (k := 66) hx hb hts inW_13 hown hK hZ1 g3.1 g3.2 rfl (by decide) k_10_3 rfl (D_180 W_prog_15_method_170_code_0 27 rfl rfl rfl) ?_
        obtain ⟨g8, hf⟩ := gif hf
        refine zlt (tgt := 37) hx hb g6 g8 (D_161 W_prog_15_method_170_code_0 30 rfl rfl rfl) (by decide) (fun h9 => ?_) (fun h9 => ?_)
        · replace hf := gpos hf h9
          refine lv_iload_n hx hb (D_29 W_prog_15_method_170_code_32 5 rfl rfl) rfl (lv_at hl 4 rfl) ?_
          obtain ⟨g10, hf⟩ := gif hf
          refine z0ne (tgt := 51) hx hb g10 (D_154 W_prog_15_method_170_code_32 6 rfl rfl rfl) (by decide) (fun h11 => ?_) (fun h11 => ?_)
          · replace hf := gneg hf h11
            refine lv_iload_n hx hb (D_29 W_prog_15_method_170_code_32 19 rfl rfl) rfl (lv_at hl 4 rfl) ?_
            refine lv_iconst (v := iI 1) hx hb (D_4 W_prog_15_method_170_code_32 20 rfl rfl) rfl ?_
            refine zne (tgt := 66) hx hb g10 (by decide) (D_160 W_prog_15_method_170_code_32 21 rfl rfl rfl) (by decide) (fun h12 => ?_) (fun h12 => ?_)
            · replace hf := gneg hf h12
              refine lv_ldcw hx hb hown (hts _ k_13_68) (D_19 W_prog_15_method_170_code_64 2 rfl rfl rfl) ?_
              refine W.eq (g2 := F0 m 69 ls [.int (iI (-2147483648))]) rfl ?_
              exact b_M_sample_69 X hf hZ1 hS1 (lv_sub hl [] rfl)
            · replace hf := gpos hf h12
              refine zaload hx hb (D_25 W_prog_15_method_170_code_32 24 rfl rfl) (lv_at hl 0 rfl) ?_
              refine zunrf g3.1 ?_
              refine zget (ci := 13) (C := RX13) (T := TX13) (v := .ref (ad 13 r1 (71 + 1))) (k := 71) hx hb hts inW_13 hown hK hZ1 g3.1 g3.2 rfl (by decide) k_10_10 rfl (D_180 W_prog_15_method_170_code_32 26 rfl rfl rfl) ?_
              refine lv_iload_n hx hb (D_28 W_prog_15_method_170_code_32 29 rfl rfl) rfl (lv_at hl 3 rfl) ?_
              obtain ⟨g13, hf⟩ := gif hf
              refine zald (ci := 13) (k := 71) hx hb hK rfl hZ1 g3.1 g3.2 rfl (Nat.le_of_ble_eq_true rfl) g13.1 g13.2 (D_46 W_prog_15_method_170_code_32 30 rfl rfl) ?_
              refine lv_goto (tgt := 69) hx hb (D_167 W_prog_15_method_170_code_32 31 rfl rfl rfl) (by decide) ?_
              exact b_M_sample_69 X hf hZ1 hS1 (lv_sub hl [] rfl)
          · replace hf := gpos hf h11
            refine zaload hx hb (D_25 W_prog_15_method_170_code_32 9 rfl rfl) (lv_at hl 0 rfl) ?_
            refine zunrf g3.1 ?_
            refine zget (ci := 13) (C := RX13) (T := TX13) (v := .ref (ad 13 r1 (70 + 1))) (k := 70) hx hb hts inW_13 hown hK hZ1 g3.1 g3.2 rfl (by decide) k_10_8 rfl (D_180 W_prog_15_method_170_code_32 11 rfl rfl rfl) ?_
            refine lv_iload_n hx hb (D_28 W_prog_15_method_170_code_32 14 rfl rfl) rfl (lv_at hl 3 rfl) ?_
            obtain ⟨g14, hf⟩ := gif hf
            refine zald (ci := 13) (k := 70) hx hb hK rfl hZ1 g3.1 g3.2 rfl (Nat.le_of_ble_eq_true rfl) g14.1 g14.2 (D_46 W_prog_15_method_170_code_32 15 rfl rfl) ?_
            refine lv_goto (tgt := 69) hx hb (D_167 W_prog_15_method_170_code_32 16 rfl rfl rfl) (by decide) ?_
            exact b_M_sample_69 X hf hZ1 hS1 (lv_sub hl [] rfl)
        · replace hf := gneg hf h9
          exact b_M_sample_33 X hf hZ1 hS1 (lv_sub hl [] rfl)

abbrev Q_M_classOf (D : va_G) (ca : Nat → ClassId) (ad : Nat → Int → Nat → Nat) (L : List Nat) (r : Int) (F : zF) (B : zB) (A : Nat → Prop) : Array Value → State → Outcome → State → Prop := va_Qv (S := Unit) (fun _ => True) (fun _ => zPo D ca ad lnM nM L F B A) A
def f_M_classOf_31 (rec2 : Int → Int → Int → zF → zB → zO) (K : Nat) (l3 : Int) (l1 : Int) (l2 : Int) (F : zF) (B : zB) : zO := rec2 (l3 + 1) l1 l2 F B
set_option maxHeartbeats 4000000 in
set_option maxRecDepth 100000 in
theorem b_M_classOf_31 {D : va_G} {ca : Nat → ClassId} {ad : Nat → Int → Nat → Nat} {L : List Nat} {aS vS : Nat → Nat} {A : Nat → Prop} {p : Program} {l : Launch} {e : Env} {s : State} {m : MethodId} {args : Array Value} {below : List Frame} {meth : Method} {c : Code} {K : Nat} {r : Int} {F9 : zF} {B9 : zB} (X : zX D ca L aS vS A p s m args meth c prog_15_method_174_code 4 (Option.none : Option Jvm.ClassFile.FieldType) "StaveHouseModel") {rec2 : Int → Int → Int → zF → zB → zO} (hrec2 : ∀ {l3 : Int} {l1 : Int} {l2 : Int} {F : zF} {B : zB} {H : Heap} {locs : List Loc} {ls : Array Slot}, rec2 l3 l1 l2 F B = some (r, F9, B9) → zH D ca ad lnM nM L F B A H → va_S A s.heap H locs → lv_has ls 4 [(3, .int (iI l3)), (0, .ref (ad 14 0 0)), (1, .int (iI l1)), (2, .int (iI l2))] → W p l e ({ frames := 0, cells := 0, slots := 0, locals := 0 } : Room) s m args below meth c H locs 0 0 (MQ below (Q_M_classOf D ca ad L r F9 B9 A) args s 0 0 A) (F0 m 2 ls [])) {l3 : Int} {l1 : Int} {l2 : Int} {F : zF} {B : zB} {H : Heap} {locs : List Loc} {ls : Array Slot} (hf : f_M_classOf_31 rec2 K l3 l1 l2 F B = some (r, F9, B9)) (hZ : zH D ca ad lnM nM L F B A H) (hS : va_S A s.heap H locs) (hl : lv_has ls 4 [(3, .int (iI l3)), (0, .ref (ad 14 0 0)), (1, .int (iI l1)), (2, .int (iI l2))]) : W p l e ({ frames := 0, cells := 0, slots := 0, locals := 0 } : Room) s m args below meth c H locs 0 0 (MQ below (Q_M_classOf D ca ad L r F9 B9 A) args s 0 0 A) (F0 m 31 ls []) := by
  obtain ⟨hx, hb, hr, hml, hown, hts, hlk, hK, hA, hL, hX⟩ := id X
  replace hf : (rec2 (l3 + 1) l1 l2 F B) = some (r, F9, B9) := hf
  refine lv_iinc (v := iI (l3 + 1)) (lv' := [(3, .int (iI (l3 + 1))), (0, .ref (ad 14 0 0)), (1, .int (iI l1)), (2, .int (iI l2))]) hx hb d_15_174_31 hl (k := 0) rfl (iI_add _ 1) (by decide) rfl (fun ls hl => ?_)
  refine lv_goto (tgt := 2) hx hb (D_167 W_prog_15_method_174_code_32 2 rfl rfl rfl) (by decide) ?_
  exact hrec2 hf hZ hS (lv_sub hl [0, 1, 2, 3] rfl)

def f_M_classOf_2 (K : Nat) : Nat → Int → Int → Int → zF → zB → zO
  | 0, _, _, _, _, _ => none
  | n + 1, l3, l1, l2, F, B => if r32 l3 then if r32 (F 14 0 100) then (if (F 14 0 100) ≤ l3 then if 0 ≤ (F 14 0 100) ∧ (F 14 0 100) < 24 then some (0, (zup3 F 14 0 100 ((F 14 0 100) + 1)), (zup4 (zup4 B 14 0 98 (F 14 0 100) l1) 14 0 99 (F 14 0 100) l2)) else none else if 0 ≤ l3 ∧ l3 < 24 then if r32 (B 14 0 98 l3) then if r32 l1 then (if (B 14 0 98 l3) = l1 then if r32 (B 14 0 99 l3) then if r32 l2 then (if (B 14 0 99 l3) = l2 then some (0, F, B) else f_M_classOf_31 (f_M_classOf_2 K n) K l3 l1 l2 F B) else none else none else f_M_classOf_31 (f_M_classOf_2 K n) K l3 l1 l2 F B) else none else none else none) else none else none
set_option maxHeartbeats 4000000 in
set_option maxRecDepth 100000 in
theorem b_M_classOf_2 {D : va_G} {ca : Nat → ClassId} {ad : Nat → Int → Nat → Nat} {L : List Nat} {aS vS : Nat → Nat} {A : Nat → Prop} {p : Program} {l : Launch} {e : Env} {s : State} {m : MethodId} {args : Array Value} {below : List Frame} {meth : Method} {c : Code} {K : Nat} {r : Int} {F9 : zF} {B9 : zB} (X : zX D ca L aS vS A p s m args meth c prog_15_method_174_code 4 (Option.none : Option Jvm.ClassFile.FieldType) "StaveHouseModel") : ∀ {n : Nat} {l3 : Int} {l1 : Int} {l2 : Int} {F : zF} {B : zB} {H : Heap} {locs : List Loc} {ls : Array Slot}, f_M_classOf_2 K n l3 l1 l2 F B = some (r, F9, B9) → zH D ca ad lnM nM L F B A H → va_S A s.heap H locs → lv_has ls 4 [(3, .int (iI l3)), (0, .ref (ad 14 0 0)), (1, .int (iI l1)), (2, .int (iI l2))] → W p l e ({ frames := 0, cells := 0, slots := 0, locals := 0 } : Room) s m args below meth c H locs 0 0 (MQ below (Q_M_classOf D ca ad L r F9 B9 A) args s 0 0 A) (F0 m 2 ls []) := by
  obtain ⟨hx, hb, hr, hml, hown, hts, hlk, hK, hA, hL, hX⟩ := id X
  intro n
  induction n with
  | zero =>
    intros
    rename_i hf _ _ _
    cases hf
  | succ n ih =>
    intro l3 l1 l2 F B H locs ls hf hZ hS hl
    replace hf : (if r32 l3 then if r32 (F 14 0 100) then (if (F 14 0 100) ≤ l3 then if 0 ≤ (F 14 0 100) ∧ (F 14 0 100) < 24 then some (0, (zup3 F 14 0 100 ((F 14 0 100) + 1)), (zup4 (zup4 B 14 0 98 (F 14 0 100) l1) 14 0 99 (F 14 0 100) l2)) else none else if 0 ≤ l3 ∧ l3 < 24 then if r32 (B 14 0 98 l3) then if r32 l1 then (if (B 14 0 98 l3) = l1 then if r32 (B 14 0 99 l3) then if r32 l2 then (if (B 14 0 99 l3) = l2 then some (0, F, B) else f_M_classOf_31 (f_M_classOf_2 K n) K l3 l1 l2 F B) else none else none else f_M_classOf_31 (f_M_classOf_2 K n) K l3 l1 l2 F B) else none else none else none) else none else none) = some (r, F9, B9) := hf
    refine lv_iload_n hx hb (D_29 W_prog_15_method_174_code_0 2 rfl rfl) rfl (lv_at hl 0 rfl) ?_
    refine lv_aload_n hx hb (D_42 W_prog_15_method_174_code_0 3 rfl rfl) rfl (lv_at hl 1 rfl) ?_
    refine zget (ci := 14) (C := RX14) (T := TX14) (v := .int (iI (F 14 0 100))) (k := 100) hx hb hts inW_14 hown hK hZ (by decide) (by decide) rfl (by decide) k_11_98 rfl (D_180 W_prog_15_method_174_code_0 4 rfl rfl rfl) ?_
    obtain ⟨g1, hf⟩ := gif hf
    obtain ⟨g2, hf⟩ := gif hf
    refine zge (tgt := 37) hx hb g1 g2 (D_162 W_prog_15_method_174_code_0 7 rfl rfl rfl) (by decide) (fun h3 => ?_) (fun h3 => ?_)
    · replace hf := gpos hf h3
      refine lv_aload_n hx hb (D_42 W_prog_15_method_174_code_32 5 rfl rfl) rfl (lv_at hl 1 rfl) ?_
      refine zget (ci := 14) (C := RX14) (T := TX14) (v := .ref (ad 14 0 (98 + 1))) (k := 98) hx hb hts inW_14 hown hK hZ (by decide) (by decide) rfl (by decide) k_11_96 rfl (D_180 W_prog_15_method_174_code_32 6 rfl rfl rfl) ?_
      refine lv_aload_n hx hb (D_42 W_prog_15_method_174_code_32 9 rfl rfl) rfl (lv_at hl 1 rfl) ?_
      refine zget (ci := 14) (C := RX14) (T := TX14) (v := .int (iI (F 14 0 100))) (k := 100) hx hb hts inW_14 hown hK hZ (by decide) (by decide) rfl (by decide) k_11_98 rfl (D_180 W_prog_15_method_174_code_32 10 rfl rfl rfl) ?_
      refine lv_iload_n hx hb (D_27 W_prog_15_method_174_code_32 13 rfl rfl) rfl (lv_at hl 2 rfl) ?_
      obtain ⟨g4, hf⟩ := gif hf
      refine zast (ci := 14) (k := 98) hx hb hK rfl hZ hS (by decide) (by decide) rfl (Nat.le_of_ble_eq_true rfl) g4.1 g4.2 (D_79 W_prog_15_method_174_code_32 14 rfl rfl) (fun H5 locs5 hZ5 hS5 => ?_)
      refine lv_aload_n hx hb (D_42 W_prog_15_method_174_code_32 15 rfl rfl) rfl (lv_at hl 1 rfl) ?_
      refine zget (ci := 14) (C := RX14) (T := TX14) (v := .ref (ad 14 0 (99 + 1))) (k := 99) hx hb hts inW_14 hown hK hZ5 (by decide) (by decide) rfl (by decide) k_11_97 rfl (D_180 W_prog_15_method_174_code_32 16 rfl rfl rfl) ?_
      refine lv_aload_n hx hb (D_42 W_prog_15_method_174_code_32 19 rfl rfl) rfl (lv_at hl 1 rfl) ?_
      refine zget (ci := 14) (C := RX14) (T := TX14) (v := .int (iI (F 14 0 100))) (k := 100) hx hb hts inW_14 hown hK hZ5 (by decide) (by decide) rfl (by decide) k_11_98 rfl (D_180 W_prog_15_method_174_code_32 20 rfl rfl rfl) ?_
      refine lv_iload_n hx hb (D_28 W_prog_15_method_174_code_32 23 rfl rfl) rfl (lv_at hl 3 rfl) ?_
      refine zast (ci := 14) (k := 99) hx hb hK rfl hZ5 hS5 (by decide) (by decide) rfl (Nat.le_of_ble_eq_true rfl) g4.1 g4.2 (D_79 W_prog_15_method_174_code_32 24 rfl rfl) (fun H6 locs6 hZ6 hS6 => ?_)
      refine lv_aload_n hx hb (D_42 W_prog_15_method_174_code_32 25 rfl rfl) rfl (lv_at hl 1 rfl) ?_
      refine lv_dup hx hb (D_89 W_prog_15_method_174_code_32 26 rfl rfl) rfl ?_
      refine zget (ci := 14) (C := RX14) (T := TX14) (v := .int (iI (F 14 0 100))) (k := 100) hx hb hts inW_14 hown hK hZ6 (by decide) (by decide) rfl (by decide) k_11_98 rfl (D_180 W_prog_15_method_174_code_32 27 rfl rfl rfl) ?_
      refine lv_iconst (v := iI 1) hx hb (D_4 W_prog_15_method_174_code_32 30 rfl rfl) rfl ?_
      refine zadd hx hb (D_96 W_prog_15_method_174_code_32 31 rfl rfl) ?_
      refine zput (ci := 14) (C := RX14) (T := TX14) (k := 100) (v := ((F 14 0 100) + 1)) (w := .int (iI ((F 14 0 100) + 1))) hx hb hts inW_14 tyX14 tyX14_ok nmX14 hown hK hZ6 hS6 (by decide) (by decide) rfl (by decide) k_11_98 rfl (fun G h => congrArg (fun q => Value.int (iI q)) h) rfl rfl (zno (by decide)) (D_181 W_prog_15_method_174_code_64 0 rfl rfl rfl) (fun H7 locs7 hZ7 hS7 => ?_)
      cases hf
      exact W.vret hx hb hr (fun t ht hW => ⟨⟨(), rfl, trivial, by rw [ht]; exact hZ7, va_K.moved hW.alike hK⟩, hS7.F ht⟩) hS7.2.2 (D_177 W_prog_15_method_174_code_64 3 rfl rfl) hlk
    · replace hf := gneg hf h3
      refine lv_aload_n hx hb (D_42 W_prog_15_method_174_code_0 10 rfl rfl) rfl (lv_at hl 1 rfl) ?_
      refine zget (ci := 14) (C := RX14) (T := TX14) (v := .ref (ad 14 0 (98 + 1))) (k := 98) hx hb hts inW_14 hown hK hZ (by decide) (by decide) rfl (by decide) k_11_96 rfl (D_180 W_prog_15_method_174_code_0 11 rfl rfl rfl) ?_
      refine lv_iload_n hx hb (D_29 W_prog_15_method_174_code_0 14 rfl rfl) rfl (lv_at hl 0 rfl) ?_
      obtain ⟨g8, hf⟩ := gif hf
      refine zald (ci := 14) (k := 98) hx hb hK rfl hZ (by decide) (by decide) rfl (Nat.le_of_ble_eq_true rfl) g8.1 g8.2 (D_46 W_prog_15_method_174_code_0 15 rfl rfl) ?_
      refine lv_iload_n hx hb (D_27 W_prog_15_method_174_code_0 16 rfl rfl) rfl (lv_at hl 2 rfl) ?_
      obtain ⟨g9, hf⟩ := gif hf
      obtain ⟨g10, hf⟩ := gif hf
      refine zne (tgt := 31) hx hb g9 g10 (D_160 W_prog_15_method_174_code_0 17 rfl rfl rfl) (by decide) (fun h11 => ?_) (fun h11 => ?_)
      · replace hf := gneg hf h11
        exact b_M_classOf_31 X ih hf hZ hS (lv_sub hl [0, 1, 2, 3] rfl)
      · replace hf := gpos hf h11
        refine lv_aload_n hx hb (D_42 W_prog_15_method_174_code_0 20 rfl rfl) rfl (lv_at hl 1 rfl) ?_
        refine zget (ci := 14) (C := RX14) (T := TX14) (v := .ref (ad 14 0 (99 + 1))) (k := 99) hx hb hts inW_14 hown hK hZ (by decide) (by decide) rfl (by decide) k_11_97 rfl (D_180 W_prog_15_method_174_code_0 21 rfl rfl rfl) ?_
        refine lv_iload_n hx hb (D_29 W_prog_15_method_174_code_0 24 rfl rfl) rfl (lv_at hl 0 rfl) ?_
        refine zald (ci := 14) (k := 99) hx hb hK rfl hZ (by decide) (by decide) rfl (Nat.le_of_ble_eq_true rfl) g8.1 g8.2 (D_46 W_prog_15_method_174_code_0 25 rfl rfl) ?_
        refine lv_iload_n hx hb (D_28 W_prog_15_method_174_code_0 26 rfl rfl) rfl (lv_at hl 3 rfl) ?_
        obtain ⟨g12, hf⟩ := gif hf
        obtain ⟨g13, hf⟩ := gif hf
        refine zne (tgt := 31) hx hb g12 g13 (D_160 W_prog_15_method_174_code_0 27 rfl rfl rfl) (by decide) (fun h14 => ?_) (fun h14 => ?_)
        · replace hf := gneg hf h14
          exact b_M_classOf_31 X ih hf hZ hS (lv_sub hl [0, 1, 2, 3] rfl)
        · replace hf := gpos hf h14
          cases hf
          exact W.vret hx hb hr (fun t ht hW => ⟨⟨(), rfl, trivial, by rw [ht]; exact hZ, va_K.moved hW.alike hK⟩, hS.F ht⟩) hS.2.2 (D_177 W_prog_15_method_174_code_0 30 rfl rfl) hlk

def f_M_classOf (K : Nat) (l1 : Int) (l2 : Int) (F : zF) (B : zB) : zO := f_M_classOf_2 K K 0 l1 l2 F B
set_option maxHeartbeats 4000000 in
set_option maxRecDepth 100000 in
theorem c_M_classOf {l : Launch} {D : va_G} {ca : Nat → ClassId} {ad : Nat → Int → Nat → Nat} {L : List Nat} {aS vS : Nat → Nat} {sz K : Nat}  {l1 : Int} {l2 : Int} {F F9 : zF} {B B9 : zB} {r : Int} (hf : f_M_classOf K l1 l2 F B = some (r, F9, B9)) : Met l ({ cls := "StaveHouseModel", name := "classOf", desc := "(II)V" } : Jvm.MethodName) (Cond.code ({ cls := "StaveHouseModel", name := "classOf", desc := "(II)V" } : Jvm.MethodName) prog_15_method_174_code 4 (Option.none : Option Jvm.ClassFile.FieldType) :: wAll) ({ frames := 0, cells := 0, slots := 0, locals := 0 } : Room) (va_Pc [.ref (ad 14 0 0), .int (iI l1), .int (iI l2)] (zPre D ca ad lnM nM L aS vS F B sz)) (Q_M_classOf D ca ad L r F9 B9 (zA L sz)) 0 0 (zA L sz) := by
  refine zMet (Qc := Q_M_classOf D ca ad L r F9 B9) (lv := [(0, .ref (ad 14 0 0)), (1, .int (iI l1)), (2, .int (iI l2))]) (by decide) (Nat.le_of_ble_eq_true rfl) rfl (fun A p e s m below meth c ls X hZ hS hl => ?_)
  obtain ⟨hx, hb, hr, hml, hown, hts, hlk, hK, hA, hL, hX⟩ := id X
  replace hf : (f_M_classOf_2 K K 0 l1 l2 F B) = some (r, F9, B9) := hf
  refine lv_iconst (v := iI 0) hx hb (D_3 W_prog_15_method_174_code_0 0 rfl rfl) rfl ?_
  refine lv_istore_n (lv' := [(3, .int (iI 0)), (0, .ref (ad 14 0 0)), (1, .int (iI l1)), (2, .int (iI l2))]) hx hb (D_62 W_prog_15_method_174_code_0 1 rfl rfl) rfl hl (by decide) rfl (fun ls hl => ?_)
  exact b_M_classOf_2 X hf hZ hS (lv_sub hl [0, 1, 2, 3] rfl)

abbrev Q_M_ofGreatThird (D : va_G) (ca : Nat → ClassId) (ad : Nat → Int → Nat → Nat) (L : List Nat) (r : Int) (F : zF) (B : zB) (A : Nat → Prop) : Array Value → State → Outcome → State → Prop := va_Qi (S := Unit) (fun p _ => p = iI r) (fun _ => zPo D ca ad lnM nM L F B A) A
def f_M_ofGreatThird_57 (K : Nat) (s0 : Int) (F : zF) (B : zB) : zO := some (s0, F, B)
set_option maxHeartbeats 4000000 in
set_option maxRecDepth 100000 in
theorem b_M_ofGreatThird_57 {D : va_G} {ca : Nat → ClassId} {ad : Nat → Int → Nat → Nat} {L : List Nat} {aS vS : Nat → Nat} {A : Nat → Prop} {p : Program} {l : Launch} {e : Env} {s : State} {m : MethodId} {args : Array Value} {below : List Frame} {meth : Method} {c : Code} {K : Nat} {r : Int} {F9 : zF} {B9 : zB} (X : zX D ca L aS vS A p s m args meth c prog_15_method_178_code 2 (Option.some Jvm.ClassFile.FieldType.int) "StaveHouseModel") {s0 : Int} {F : zF} {B : zB} {H : Heap} {locs : List Loc} {ls : Array Slot} (hf : f_M_ofGreatThird_57 K s0 F B = some (r, F9, B9)) (hZ : zH D ca ad lnM nM L F B A H) (hS : va_S A s.heap H locs) (hl : lv_has ls 2 []) : W p l e ({ frames := 0, cells := 0, slots := 0, locals := 0 } : Room) s m args below meth c H locs 0 0 (MQ below (Q_M_ofGreatThird D ca ad L r F9 B9 A) args s 0 0 A) (F0 m 57 ls [.int (iI s0)]) := by
  obtain ⟨hx, hb, hr, hml, hown, hts, hlk, hK, hA, hL, hX⟩ := id X
  replace hf : (some (s0, F, B)) = some (r, F9, B9) := hf
  cases hf
  exact W.iret hx hb hr (fun t ht hW => ⟨⟨_, (), rfl, rfl, by rw [ht]; exact hZ, va_K.moved hW.alike hK⟩, hS.F ht⟩) hS.2.2 (D_172 W_prog_15_method_178_code_32 25 rfl rfl) hlk

def f_M_ofGreatThird_28 (K : Nat) (l1 : Int) (F : zF) (B : zB) : zO := if r32 l1 then (if 0 ≤ l1 then (if l1 = 10 then f_M_ofGreatThird_57 K 4 F B else (if l1 = 11 then f_M_ofGreatThird_57 K 5 F B else f_M_ofGreatThird_57 K (-1) F B)) else f_M_ofGreatThird_57 K 0 F B) else none
set_option maxHeartbeats 4000000 in
set_option maxRecDepth 100000 in
theorem b_M_ofGreatThird_28 {D : va_G} {ca : Nat → ClassId} {ad : Nat → Int → Nat → Nat} {L : List Nat} {aS vS : Nat → Nat} {A : Nat → Prop} {p : Program} {l : Launch} {e : Env} {s : State} {m : MethodId} {args : Array Value} {below : List Frame} {meth : Method} {c : Code} {K : Nat} {r : Int} {F9 : zF} {B9 : zB} (X : zX D ca L aS vS A p s m args meth c prog_15_method_178_code 2 (Option.some Jvm.ClassFile.FieldType.int) "StaveHouseModel") {l1 : Int} {F : zF} {B : zB} {H : Heap} {locs : List Loc} {ls : Array Slot} (hf : f_M_ofGreatThird_28 K l1 F B = some (r, F9, B9)) (hZ : zH D ca ad lnM nM L F B A H) (hS : va_S A s.heap H locs) (hl : lv_has ls 2 [(1, .int (iI l1))]) : W p l e ({ frames := 0, cells := 0, slots := 0, locals := 0 } : Room) s m args below meth c H locs 0 0 (MQ below (Q_M_ofGreatThird D ca ad L r F9 B9 A) args s 0 0 A) (F0 m 28 ls []) := by
  obtain ⟨hx, hb, hr, hml, hown, hts, hlk, hK, hA, hL, hX⟩ := id X
  replace hf : (if r32 l1 then (if 0 ≤ l1 then (if l1 = 10 then f_M_ofGreatThird_57 K 4 F B else (if l1 = 11 then f_M_ofGreatThird_57 K 5 F B else f_M_ofGreatThird_57 K (-1) F B)) else f_M_ofGreatThird_57 K 0 F B) else none) = some (r, F9, B9) := hf
  refine lv_iload_n hx hb (D_27 W_prog_15_method_178_code_0 28 rfl rfl) rfl (lv_at hl 0 rfl) ?_
  obtain ⟨g7, hf⟩ := gif hf
  refine z0ge (tgt := 36) hx hb g7 (D_156 W_prog_15_method_178_code_0 29 rfl rfl rfl) (by decide) (fun h8 => ?_) (fun h8 => ?_)
  · replace hf := gpos hf h8
    refine lv_iload_n hx hb (D_27 W_prog_15_method_178_code_32 4 rfl rfl) rfl (lv_at hl 0 rfl) ?_
    refine lv_bipush (v := iI 10) hx hb (D_16 W_prog_15_method_178_code_32 5 rfl rfl rfl) (by decide) ?_
    refine zne (tgt := 46) hx hb g7 (by decide) (D_160 W_prog_15_method_178_code_32 7 rfl rfl rfl) (by decide) (fun h9 => ?_) (fun h9 => ?_)
    · replace hf := gneg hf h9
      refine lv_iload_n hx hb (D_27 W_prog_15_method_178_code_32 14 rfl rfl) rfl (lv_at hl 0 rfl) ?_
      refine lv_bipush (v := iI 11) hx hb (D_16 W_prog_15_method_178_code_32 15 rfl rfl rfl) (by decide) ?_
      refine zne (tgt := 56) hx hb g7 (by decide) (D_160 W_prog_15_method_178_code_32 17 rfl rfl rfl) (by decide) (fun h10 => ?_) (fun h10 => ?_)
      · replace hf := gneg hf h10
        refine lv_iconst (v := iI (-1)) hx hb (D_2 W_prog_15_method_178_code_32 24 rfl rfl) rfl ?_
        exact b_M_ofGreatThird_57 X hf hZ hS (lv_sub hl [] rfl)
      · replace hf := gpos hf h10
        refine lv_iconst (v := iI 5) hx hb (D_8 W_prog_15_method_178_code_32 20 rfl rfl) rfl ?_
        refine lv_goto (tgt := 57) hx hb (D_167 W_prog_15_method_178_code_32 21 rfl rfl rfl) (by decide) ?_
        exact b_M_ofGreatThird_57 X hf hZ hS (lv_sub hl [] rfl)
    · replace hf := gpos hf h9
      refine lv_iconst (v := iI 4) hx hb (D_7 W_prog_15_method_178_code_32 10 rfl rfl) rfl ?_
      refine lv_goto (tgt := 57) hx hb (D_167 W_prog_15_method_178_code_32 11 rfl rfl rfl) (by decide) ?_
      exact b_M_ofGreatThird_57 X hf hZ hS (lv_sub hl [] rfl)
  · replace hf := gneg hf h8
    refine lv_iconst (v := iI 0) hx hb (D_3 W_prog_15_method_178_code_32 0 rfl rfl) rfl ?_
    refine lv_goto (tgt := 57) hx hb (D_167 W_prog_15_method_178_code_32 1 rfl rfl rfl) (by decide) ?_
    exact b_M_ofGreatThird_57 X hf hZ hS (lv_sub hl [] rfl)

def f_M_ofGreatThird_15 (K : Nat) (s0 : Int) (F : zF) (B : zB) : zO := some (s0, F, B)
set_option maxHeartbeats 4000000 in
set_option maxRecDepth 100000 in
theorem b_M_ofGreatThird_15 {D : va_G} {ca : Nat → ClassId} {ad : Nat → Int → Nat → Nat} {L : List Nat} {aS vS : Nat → Nat} {A : Nat → Prop} {p : Program} {l : Launch} {e : Env} {s : State} {m : MethodId} {args : Array Value} {below : List Frame} {meth : Method} {c : Code} {K : Nat} {r : Int} {F9 : zF} {B9 : zB} (X : zX D ca L aS vS A p s m args meth c prog_15_method_178_code 2 (Option.some Jvm.ClassFile.FieldType.int) "StaveHouseModel") {s0 : Int} {F : zF} {B : zB} {H : Heap} {locs : List Loc} {ls : Array Slot} (hf : f_M_ofGreatThird_15 K s0 F B = some (r, F9, B9)) (hZ : zH D ca ad lnM nM L F B A H) (hS : va_S A s.heap H locs) (hl : lv_has ls 2 []) : W p l e ({ frames := 0, cells := 0, slots := 0, locals := 0 } : Room) s m args below meth c H locs 0 0 (MQ below (Q_M_ofGreatThird D ca ad L r F9 B9 A) args s 0 0 A) (F0 m 15 ls [.int (iI s0)]) := by
  obtain ⟨hx, hb, hr, hml, hown, hts, hlk, hK, hA, hL, hX⟩ := id X
  replace hf : (some (s0, F, B)) = some (r, F9, B9) := hf
  cases hf
  exact W.iret hx hb hr (fun t ht hW => ⟨⟨_, (), rfl, rfl, by rw [ht]; exact hZ, va_K.moved hW.alike hK⟩, hS.F ht⟩) hS.2.2 (D_172 W_prog_15_method_178_code_0 15 rfl rfl) hlk

def f_M_ofGreatThird (K : Nat) (l0 : Int) (l1 : Int) (F : zF) (B : zB) : zO := if r32 l0 then (if l0 = 8 then if r32 l1 then (if 0 ≤ l1 then f_M_ofGreatThird_15 K (-1) F B else f_M_ofGreatThird_15 K 3 F B) else none else (if l0 < 0 then f_M_ofGreatThird_28 K l1 F B else (if l0 = 7 then f_M_ofGreatThird_28 K l1 F B else some ((-1), F, B)))) else none
set_option maxHeartbeats 4000000 in
set_option maxRecDepth 100000 in
theorem c_M_ofGreatThird {l : Launch} {D : va_G} {ca : Nat → ClassId} {ad : Nat → Int → Nat → Nat} {L : List Nat} {aS vS : Nat → Nat} {sz K : Nat}  {l0 : Int} {l1 : Int} {F F9 : zF} {B B9 : zB} {r : Int} (hf : f_M_ofGreatThird K l0 l1 F B = some (r, F9, B9)) : Met l ({ cls := "StaveHouseModel", name := "ofGreatThird", desc := "(II)I" } : Jvm.MethodName) (Cond.code ({ cls := "StaveHouseModel", name := "ofGreatThird", desc := "(II)I" } : Jvm.MethodName) prog_15_method_178_code 2 (Option.some Jvm.ClassFile.FieldType.int) :: wAll) ({ frames := 0, cells := 0, slots := 0, locals := 0 } : Room) (va_Pc [.int (iI l0), .int (iI l1)] (zPre D ca ad lnM nM L aS vS F B sz)) (Q_M_ofGreatThird D ca ad L r F9 B9 (zA L sz)) 0 0 (zA L sz) := by
  refine zMet (Qc := Q_M_ofGreatThird D ca ad L r F9 B9) (lv := [(0, .int (iI l0)), (1, .int (iI l1))]) (by decide) (Nat.le_of_ble_eq_true rfl) rfl (fun A p e s m below meth c ls X hZ hS hl => ?_)
  obtain ⟨hx, hb, hr, hml, hown, hts, hlk, hK, hA, hL, hX⟩ := id X
  replace hf : (if r32 l0 then (if l0 = 8 then if r32 l1 then (if 0 ≤ l1 then f_M_ofGreatThird_15 K (-1) F B else f_M_ofGreatThird_15 K 3 F B) else none else (if l0 < 0 then f_M_ofGreatThird_28 K l1 F B else (if l0 = 7 then f_M_ofGreatThird_28 K l1 F B else some ((-1), F, B)))) else none) = some (r, F9, B9) := hf
  refine lv_iload_n hx hb (D_26 W_prog_15_method_178_code_0 0 rfl rfl) rfl (lv_at hl 0 rfl) ?_
  refine lv_bipush (v := iI 8) hx hb (D_16 W_prog_15_method_178_code_0 1 rfl rfl rfl) (by decide) ?_
  obtain ⟨g1, hf⟩ := gif hf
  refine zne (tgt := 16) hx hb g1 (by decide) (D_160 W_prog_15_method_178_code_0 3 rfl rfl rfl) (by decide) (fun h2 => ?_) (fun h2 => ?_)
  · replace hf := gneg hf h2
    refine lv_iload_n hx hb (D_26 W_prog_15_method_178_code_0 16 rfl rfl) rfl (lv_at hl 0 rfl) ?_
    refine z0lt (tgt := 28) hx hb g1 (D_155 W_prog_15_method_178_code_0 17 rfl rfl rfl) (by decide) (fun h3 => ?_) (fun h3 => ?_)
    · replace hf := gpos hf h3
      exact b_M_ofGreatThird_28 X hf hZ hS (lv_sub hl [1] rfl)
    · replace hf := gneg hf h3
      refine lv_iload_n hx hb (D_26 W_prog_15_method_178_code_0 20 rfl rfl) rfl (lv_at hl 0 rfl) ?_
      refine lv_bipush (v := iI 7) hx hb (D_16 W_prog_15_method_178_code_0 21 rfl rfl rfl) (by decide) ?_
      refine zeq (tgt := 28) hx hb g1 (by decide) (D_159 W_prog_15_method_178_code_0 23 rfl rfl rfl) (by decide) (fun h4 => ?_) (fun h4 => ?_)
      · replace hf := gpos hf h4
        exact b_M_ofGreatThird_28 X hf hZ hS (lv_sub hl [1] rfl)
      · replace hf := gneg hf h4
        refine lv_iconst (v := iI (-1)) hx hb (D_2 W_prog_15_method_178_code_0 26 rfl rfl) rfl ?_
        cases hf
        exact W.iret hx hb hr (fun t ht hW => ⟨⟨_, (), rfl, rfl, by rw [ht]; exact hZ, va_K.moved hW.alike hK⟩, hS.F ht⟩) hS.2.2 (D_172 W_prog_15_method_178_code_0 27 rfl rfl) hlk
  · replace hf := gpos hf h2
    refine lv_iload_n hx hb (D_27 W_prog_15_method_178_code_0 6 rfl rfl) rfl (lv_at hl 1 rfl) ?_
    obtain ⟨g5, hf⟩ := gif hf
    refine z0ge (tgt := 14) hx hb g5 (D_156 W_prog_15_method_178_code_0 7 rfl rfl rfl) (by decide) (fun h6 => ?_) (fun h6 => ?_)
    · replace hf := gpos hf h6
      refine lv_iconst (v := iI (-1)) hx hb (D_2 W_prog_15_method_178_code_0 14 rfl rfl) rfl ?_
      exact b_M_ofGreatThird_15 X hf hZ hS (lv_sub hl [] rfl)
    · replace hf := gneg hf h6
      refine lv_iconst (v := iI 3) hx hb (D_6 W_prog_15_method_178_code_0 10 rfl rfl) rfl ?_
      refine lv_goto (tgt := 15) hx hb (D_167 W_prog_15_method_178_code_0 11 rfl rfl rfl) (by decide) ?_
      exact b_M_ofGreatThird_15 X hf hZ hS (lv_sub hl [] rfl)

abbrev Q_M_ofSmallThird (D : va_G) (ca : Nat → ClassId) (ad : Nat → Int → Nat → Nat) (L : List Nat) (r : Int) (F : zF) (B : zB) (A : Nat → Prop) : Array Value → State → Outcome → State → Prop := va_Qi (S := Unit) (fun p _ => p = iI r) (fun _ => zPo D ca ad lnM nM L F B A) A
def f_M_ofSmallThird_81 (K : Nat) (s0 : Int) (F : zF) (B : zB) : zO := some (s0, F, B)
set_option maxHeartbeats 4000000 in
set_option maxRecDepth 100000 in
theorem b_M_ofSmallThird_81 {D : va_G} {ca : Nat → ClassId} {ad : Nat → Int → Nat → Nat} {L : List Nat} {aS vS : Nat → Nat} {A : Nat → Prop} {p : Program} {l : Launch} {e : Env} {s : State} {m : MethodId} {args : Array Value} {below : List Frame} {meth : Method} {c : Code} {K : Nat} {r : Int} {F9 : zF} {B9 : zB} (X : zX D ca L aS vS A p s m args meth c prog_15_method_179_code 2 (Option.some Jvm.ClassFile.FieldType.int) "StaveHouseModel") {s0 : Int} {F : zF} {B : zB} {H : Heap} {locs : List Loc} {ls : Array Slot} (hf : f_M_ofSmallThird_81 K s0 F B = some (r, F9, B9)) (hZ : zH D ca ad lnM nM L F B A H) (hS : va_S A s.heap H locs) (hl : lv_has ls 2 []) : W p l e ({ frames := 0, cells := 0, slots := 0, locals := 0 } : Room) s m args below meth c H locs 0 0 (MQ below (Q_M_ofSmallThird D ca ad L r F9 B9 A) args s 0 0 A) (F0 m 81 ls [.int (iI s0)]) := by
  obtain ⟨hx, hb, hr, hml, hown, hts, hlk, hK, hA, hL, hX⟩ := id X
  replace hf : (some (s0, F, B)) = some (r, F9, B9) := hf
  cases hf
  exact W.iret hx hb hr (fun t ht hW => ⟨⟨_, (), rfl, rfl, by rw [ht]; exact hZ, va_K.moved hW.alike hK⟩, hS.F ht⟩) hS.2.2 (D_172 W_prog_15_method_179_code_64 17 rfl rfl) hlk

def f_M_ofSmallThird_50 (K : Nat) (l1 : Int) (F : zF) (B : zB) : zO := if r32 l1 then (if 0 ≤ l1 then (if l1 = 10 then f_M_ofSmallThird_81 K 6 F B else (if l1 = 11 then f_M_ofSmallThird_81 K 9 F B else f_M_ofSmallThird_81 K (-1) F B)) else f_M_ofSmallThird_81 K 1 F B) else none
set_option maxHeartbeats 4000000 in
set_option maxRecDepth 100000 in
theorem b_M_ofSmallThird_50 {D : va_G} {ca : Nat → ClassId} {ad : Nat → Int → Nat → Nat} {L : List Nat} {aS vS : Nat → Nat} {A : Nat → Prop} {p : Program} {l : Launch} {e : Env} {s : State} {m : MethodId} {args : Array Value} {below : List Frame} {meth : Method} {c : Code} {K : Nat} {r : Int} {F9 : zF} {B9 : zB} (X : zX D ca L aS vS A p s m args meth c prog_15_method_179_code 2 (Option.some Jvm.ClassFile.FieldType.int) "StaveHouseModel") {l1 : Int} {F : zF} {B : zB} {H : Heap} {locs : List Loc} {ls : Array Slot} (hf : f_M_ofSmallThird_50 K l1 F B = some (r, F9, B9)) (hZ : zH D ca ad lnM nM L F B A H) (hS : va_S A s.heap H locs) (hl : lv_has ls 2 [(1, .int (iI l1))]) : W p l e ({ frames := 0, cells := 0, slots := 0, locals := 0 } : Room) s m args below meth c H locs 0 0 (MQ below (Q_M_ofSmallThird D ca ad L r F9 B9 A) args s 0 0 A) (F0 m 50 ls []) := by
  obtain ⟨hx, hb, hr, hml, hown, hts, hlk, hK, hA, hL, hX⟩ := id X
  replace hf : (if r32 l1 then (if 0 ≤ l1 then (if l1 = 10 then f_M_ofSmallThird_81 K 6 F B else (if l1 = 11 then f_M_ofSmallThird_81 K 9 F B else f_M_ofSmallThird_81 K (-1) F B)) else f_M_ofSmallThird_81 K 1 F B) else none) = some (r, F9, B9) := hf
  refine lv_iload_n hx hb (D_27 W_prog_15_method_179_code_32 18 rfl rfl) rfl (lv_at hl 0 rfl) ?_
  obtain ⟨g9, hf⟩ := gif hf
  refine z0ge (tgt := 58) hx hb g9 (D_156 W_prog_15_method_179_code_32 19 rfl rfl rfl) (by decide) (fun h10 => ?_) (fun h10 => ?_)
  · replace hf := gpos hf h10
    refine lv_iload_n hx hb (D_27 W_prog_15_method_179_code_32 26 rfl rfl) rfl (lv_at hl 0 rfl) ?_
    refine lv_bipush (v := iI 10) hx hb (D_16 W_prog_15_method_179_code_32 27 rfl rfl rfl) (by decide) ?_
    refine zne (tgt := 69) hx hb g9 (by decide) (D_160 W_prog_15_method_179_code_32 29 rfl rfl rfl) (by decide) (fun h11 => ?_) (fun h11 => ?_)
    · replace hf := gneg hf h11
      refine lv_iload_n hx hb (D_27 W_prog_15_method_179_code_64 5 rfl rfl) rfl (lv_at hl 0 rfl) ?_
      refine lv_bipush (v := iI 11) hx hb (D_16 W_prog_15_method_179_code_64 6 rfl rfl rfl) (by decide) ?_
      refine zne (tgt := 80) hx hb g9 (by decide) (D_160 W_prog_15_method_179_code_64 8 rfl rfl rfl) (by decide) (fun h12 => ?_) (fun h12 => ?_)
      · replace hf := gneg hf h12
        refine lv_iconst (v := iI (-1)) hx hb (D_2 W_prog_15_method_179_code_64 16 rfl rfl) rfl ?_
        exact b_M_ofSmallThird_81 X hf hZ hS (lv_sub hl [] rfl)
      · replace hf := gpos hf h12
        refine lv_bipush (v := iI 9) hx hb (D_16 W_prog_15_method_179_code_64 11 rfl rfl rfl) (by decide) ?_
        refine lv_goto (tgt := 81) hx hb (D_167 W_prog_15_method_179_code_64 13 rfl rfl rfl) (by decide) ?_
        exact b_M_ofSmallThird_81 X hf hZ hS (lv_sub hl [] rfl)
    · replace hf := gpos hf h11
      refine lv_bipush (v := iI 6) hx hb (D_16 W_prog_15_method_179_code_64 0 rfl rfl rfl) (by decide) ?_
      refine lv_goto (tgt := 81) hx hb (D_167 W_prog_15_method_179_code_64 2 rfl rfl rfl) (by decide) ?_
      exact b_M_ofSmallThird_81 X hf hZ hS (lv_sub hl [] rfl)
  · replace hf := gneg hf h10
    refine lv_iconst (v := iI 1) hx hb (D_4 W_prog_15_method_179_code_32 22 rfl rfl) rfl ?_
    refine lv_goto (tgt := 81) hx hb (D_167 W_prog_15_method_179_code_32 23 rfl rfl rfl) (by decide) ?_
    exact b_M_ofSmallThird_81 X hf hZ hS (lv_sub hl [] rfl)

def f_M_ofSmallThird_37 (K : Nat) (s0 : Int) (F : zF) (B : zB) : zO := some (s0, F, B)
set_option maxHeartbeats 4000000 in
set_option maxRecDepth 100000 in
theorem b_M_ofSmallThird_37 {D : va_G} {ca : Nat → ClassId} {ad : Nat → Int → Nat → Nat} {L : List Nat} {aS vS : Nat → Nat} {A : Nat → Prop} {p : Program} {l : Launch} {e : Env} {s : State} {m : MethodId} {args : Array Value} {below : List Frame} {meth : Method} {c : Code} {K : Nat} {r : Int} {F9 : zF} {B9 : zB} (X : zX D ca L aS vS A p s m args meth c prog_15_method_179_code 2 (Option.some Jvm.ClassFile.FieldType.int) "StaveHouseModel") {s0 : Int} {F : zF} {B : zB} {H : Heap} {locs : List Loc} {ls : Array Slot} (hf : f_M_ofSmallThird_37 K s0 F B = some (r, F9, B9)) (hZ : zH D ca ad lnM nM L F B A H) (hS : va_S A s.heap H locs) (hl : lv_has ls 2 []) : W p l e ({ frames := 0, cells := 0, slots := 0, locals := 0 } : Room) s m args below meth c H locs 0 0 (MQ below (Q_M_ofSmallThird D ca ad L r F9 B9 A) args s 0 0 A) (F0 m 37 ls [.int (iI s0)]) := by
  obtain ⟨hx, hb, hr, hml, hown, hts, hlk, hK, hA, hL, hX⟩ := id X
  replace hf : (some (s0, F, B)) = some (r, F9, B9) := hf
  cases hf
  exact W.iret hx hb hr (fun t ht hW => ⟨⟨_, (), rfl, rfl, by rw [ht]; exact hZ, va_K.moved hW.alike hK⟩, hS.F ht⟩) hS.2.2 (D_172 W_prog_15_method_179_code_32 5 rfl rfl) hlk

def f_M_ofSmallThird (K : Nat) (l0 : Int) (l1 : Int) (F : zF) (B : zB) : zO := if r32 l0 then (if l0 = 6 then if r32 l1 then (if 0 ≤ l1 then (if l1 = 10 then f_M_ofSmallThird_37 K 7 F B else (if l1 = 9 then f_M_ofSmallThird_37 K 8 F B else f_M_ofSmallThird_37 K (-1) F B)) else f_M_ofSmallThird_37 K 2 F B) else none else (if l0 < 0 then f_M_ofSmallThird_50 K l1 F B else (if l0 = 7 then f_M_ofSmallThird_50 K l1 F B else some ((-1), F, B)))) else none
set_option maxHeartbeats 4000000 in
set_option maxRecDepth 100000 in
theorem c_M_ofSmallThird {l : Launch} {D : va_G} {ca : Nat → ClassId} {ad : Nat → Int → Nat → Nat} {L : List Nat} {aS vS : Nat → Nat} {sz K : Nat}  {l0 : Int} {l1 : Int} {F F9 : zF} {B B9 : zB} {r : Int} (hf : f_M_ofSmallThird K l0 l1 F B = some (r, F9, B9)) : Met l ({ cls := "StaveHouseModel", name := "ofSmallThird", desc := "(II)I" } : Jvm.MethodName) (Cond.code ({ cls := "StaveHouseModel", name := "ofSmallThird", desc := "(II)I" } : Jvm.MethodName) prog_15_method_179_code 2 (Option.some Jvm.ClassFile.FieldType.int) :: wAll) ({ frames := 0, cells := 0, slots := 0, locals := 0 } : Room) (va_Pc [.int (iI l0), .int (iI l1)] (zPre D ca ad lnM nM L aS vS F B sz)) (Q_M_ofSmallThird D ca ad L r F9 B9 (zA L sz)) 0 0 (zA L sz) := by
  refine zMet (Qc := Q_M_ofSmallThird D ca ad L r F9 B9) (lv := [(0, .int (iI l0)), (1, .int (iI l1))]) (by decide) (Nat.le_of_ble_eq_true rfl) rfl (fun A p e s m below meth c ls X hZ hS hl => ?_)
  obtain ⟨hx, hb, hr, hml, hown, hts, hlk, hK, hA, hL, hX⟩ := id X
  replace hf : (if r32 l0 then (if l0 = 6 then if r32 l1 then (if 0 ≤ l1 then (if l1 = 10 then f_M_ofSmallThird_37 K 7 F B else (if l1 = 9 then f_M_ofSmallThird_37 K 8 F B else f_M_ofSmallThird_37 K (-1) F B)) else f_M_ofSmallThird_37 K 2 F B) else none else (if l0 < 0 then f_M_ofSmallThird_50 K l1 F B else (if l0 = 7 then f_M_ofSmallThird_50 K l1 F B else some ((-1), F, B)))) else none) = some (r, F9, B9) := hf
  refine lv_iload_n hx hb (D_26 W_prog_15_method_179_code_0 0 rfl rfl) rfl (lv_at hl 0 rfl) ?_
  refine lv_bipush (v := iI 6) hx hb (D_16 W_prog_15_method_179_code_0 1 rfl rfl rfl) (by decide) ?_
  obtain ⟨g1, hf⟩ := gif hf
  refine zne (tgt := 38) hx hb g1 (by decide) (D_160 W_prog_15_method_179_code_0 3 rfl rfl rfl) (by decide) (fun h2 => ?_) (fun h2 => ?_)
  · replace hf := gneg hf h2
    refine lv_iload_n hx hb (D_26 W_prog_15_method_179_code_32 6 rfl rfl) rfl (lv_at hl 0 rfl) ?_
    refine z0lt (tgt := 50) hx hb g1 (D_155 W_prog_15_method_179_code_32 7 rfl rfl rfl) (by decide) (fun h3 => ?_) (fun h3 => ?_)
    · replace hf := gpos hf h3
      exact b_M_ofSmallThird_50 X hf hZ hS (lv_sub hl [1] rfl)
    · replace hf := gneg hf h3
      refine lv_iload_n hx hb (D_26 W_prog_15_method_179_code_32 10 rfl rfl) rfl (lv_at hl 0 rfl) ?_
      refine lv_bipush (v := iI 7) hx hb (D_16 W_prog_15_method_179_code_32 11 rfl rfl rfl) (by decide) ?_
      refine zeq (tgt := 50) hx hb g1 (by decide) (D_159 W_prog_15_method_179_code_32 13 rfl rfl rfl) (by decide) (fun h4 => ?_) (fun h4 => ?_)
      · replace hf := gpos hf h4
        exact b_M_ofSmallThird_50 X hf hZ hS (lv_sub hl [1] rfl)
      · replace hf := gneg hf h4
        refine lv_iconst (v := iI (-1)) hx hb (D_2 W_prog_15_method_179_code_32 16 rfl rfl) rfl ?_
        cases hf
        exact W.iret hx hb hr (fun t ht hW => ⟨⟨_, (), rfl, rfl, by rw [ht]; exact hZ, va_K.moved hW.alike hK⟩, hS.F ht⟩) hS.2.2 (D_172 W_prog_15_method_179_code_32 17 rfl rfl) hlk
  · replace hf := gpos hf h2
    refine lv_iload_n hx hb (D_27 W_prog_15_method_179_code_0 6 rfl rfl) rfl (lv_at hl 1 rfl) ?_
    obtain ⟨g5, hf⟩ := gif hf
    refine z0ge (tgt := 14) hx hb g5 (D_156 W_prog_15_method_179_code_0 7 rfl rfl rfl) (by decide) (fun h6 => ?_) (fun h6 => ?_)
    · replace hf := gpos hf h6
      refine lv_iload_n hx hb (D_27 W_prog_15_method_179_code_0 14 rfl rfl) rfl (lv_at hl 1 rfl) ?_
      refine lv_bipush (v := iI 10) hx hb (D_16 W_prog_15_method_179_code_0 15 rfl rfl rfl) (by decide) ?_
      refine zne (tgt := 25) hx hb g5 (by decide) (D_160 W_prog_15_method_179_code_0 17 rfl rfl rfl) (by decide) (fun h7 => ?_) (fun h7 => ?_)
      · replace hf := gneg hf h7
        refine lv_iload_n hx hb (D_27 W_prog_15_method_179_code_0 25 rfl rfl) rfl (lv_at hl 1 rfl) ?_
        refine lv_bipush (v := iI 9) hx hb (D_16 W_prog_15_method_179_code_0 26 rfl rfl rfl) (by decide) ?_
        refine zne (tgt := 36) hx hb g5 (by decide) (D_160 W_prog_15_method_179_code_0 28 rfl rfl rfl) (by decide) (fun h8 => ?_) (fun h8 => ?_)
        · replace hf := gneg hf h8
          refine lv_iconst (v := iI (-1)) hx hb (D_2 W_prog_15_method_179_code_32 4 rfl rfl) rfl ?_
          exact b_M_ofSmallThird_37 X hf hZ hS (lv_sub hl [] rfl)
        · replace hf := gpos hf h8
          refine lv_bipush (v := iI 8) hx hb (D_16 W_prog_15_method_179_code_0 31 rfl rfl rfl) (by decide) ?_
          refine lv_goto (tgt := 37) hx hb (D_167 W_prog_15_method_179_code_32 1 rfl rfl rfl) (by decide) ?_
          exact b_M_ofSmallThird_37 X hf hZ hS (lv_sub hl [] rfl)
      · replace hf := gpos hf h7
        refine lv_bipush (v := iI 7) hx hb (D_16 W_prog_15_method_179_code_0 20 rfl rfl rfl) (by decide) ?_
        refine lv_goto (tgt := 37) hx hb (D_167 W_prog_15_method_179_code_0 22 rfl rfl rfl) (by decide) ?_
        exact b_M_ofSmallThird_37 X hf hZ hS (lv_sub hl [] rfl)
    · replace hf := gneg hf h6
      refine lv_iconst (v := iI 2) hx hb (D_5 W_prog_15_method_179_code_0 10 rfl rfl) rfl ?_
      refine lv_goto (tgt := 37) hx hb (D_167 W_prog_15_method_179_code_0 11 rfl rfl rfl) (by decide) ?_
      exact b_M_ofSmallThird_37 X hf hZ hS (lv_sub hl [] rfl)

abbrev Q_M_fault_0 (D : va_G) (ca : Nat → ClassId) (ad : Nat → Int → Nat → Nat) (L : List Nat) (r : Int) (F : zF) (B : zB) (A : Nat → Prop) : Array Value → State → Outcome → State → Prop := va_Qi (S := Unit) (fun p _ => p = iI r) (fun _ => zPo D ca ad lnM nM L F B A) A
def f_M_fault_0_81 (K : Nat) (s0 : Int) (F : zF) (B : zB) : zO := some (s0, F, B)
set_option maxHeartbeats 4000000 in
set_option maxRecDepth 100000 in
theorem b_M_fault_0_81 {D : va_G} {ca : Nat → ClassId} {ad : Nat → Int → Nat → Nat} {L : List Nat} {aS vS : Nat → Nat} {A : Nat → Prop} {p : Program} {l : Launch} {e : Env} {s : State} {m : MethodId} {args : Array Value} {below : List Frame} {meth : Method} {c : Code} {K : Nat} {r : Int} {F9 : zF} {B9 : zB} (X : zX D ca L aS vS A p s m args meth c prog_15_method_194_code 5 (Option.some Jvm.ClassFile.FieldType.int) "StaveHouseModel") {s0 : Int} {F : zF} {B : zB} {H : Heap} {locs : List Loc} {ls : Array Slot} (hf : f_M_fault_0_81 K s0 F B = some (r, F9, B9)) (hZ : zH D ca ad lnM nM L F B A H) (hS : va_S A s.heap H locs) (hl : lv_has ls 5 []) : W p l e ({ frames := 1, cells := 0, slots := 0, locals := 21 } : Room) s m args below meth c H locs 0 0 (MQ below (Q_M_fault_0 D ca ad L r F9 B9 A) args s 0 0 A) (F0 m 81 ls [.int (iI s0)]) := by
  obtain ⟨hx, hb, hr, hml, hown, hts, hlk, hK, hA, hL, hX⟩ := id X
  replace hf : (some (s0, F, B)) = some (r, F9, B9) := hf
  cases hf
  exact W.iret hx hb hr (fun t ht hW => ⟨⟨_, (), rfl, rfl, by rw [ht]; exact hZ, va_K.moved hW.alike hK⟩, hS.F ht⟩) hS.2.2 (D_172 W_prog_15_method_194_code_64 17 rfl rfl) hlk

def f_M_fault_0_25 (K : Nat)  (F : zF) (B : zB) : zO := some ((-1), F, B)
set_option maxHeartbeats 4000000 in
set_option maxRecDepth 100000 in
theorem b_M_fault_0_25 {D : va_G} {ca : Nat → ClassId} {ad : Nat → Int → Nat → Nat} {L : List Nat} {aS vS : Nat → Nat} {A : Nat → Prop} {p : Program} {l : Launch} {e : Env} {s : State} {m : MethodId} {args : Array Value} {below : List Frame} {meth : Method} {c : Code} {K : Nat} {r : Int} {F9 : zF} {B9 : zB} (X : zX D ca L aS vS A p s m args meth c prog_15_method_194_code 5 (Option.some Jvm.ClassFile.FieldType.int) "StaveHouseModel")  {F : zF} {B : zB} {H : Heap} {locs : List Loc} {ls : Array Slot} (hf : f_M_fault_0_25 K  F B = some (r, F9, B9)) (hZ : zH D ca ad lnM nM L F B A H) (hS : va_S A s.heap H locs) (hl : lv_has ls 5 []) : W p l e ({ frames := 1, cells := 0, slots := 0, locals := 21 } : Room) s m args below meth c H locs 0 0 (MQ below (Q_M_fault_0 D ca ad L r F9 B9 A) args s 0 0 A) (F0 m 25 ls []) := by
  obtain ⟨hx, hb, hr, hml, hown, hts, hlk, hK, hA, hL, hX⟩ := id X
  replace hf : (some ((-1), F, B)) = some (r, F9, B9) := hf
  refine lv_iconst (v := iI (-1)) hx hb (D_2 W_prog_15_method_194_code_0 25 rfl rfl) rfl ?_
  cases hf
  exact W.iret hx hb hr (fun t ht hW => ⟨⟨_, (), rfl, rfl, by rw [ht]; exact hZ, va_K.moved hW.alike hK⟩, hS.F ht⟩) hS.2.2 (D_172 W_prog_15_method_194_code_0 26 rfl rfl) hlk

def f_M_fault_0 (K : Nat) (l1 : Int) (l2 : Int) (l3 : Int) (F : zF) (B : zB) : zO := zbind (f_M_piece K l1 F B) (fun r1 F1 B1 => (if r1 < 0 then f_M_fault_0_25 K F1 B1 else if r32 l2 then (if l2 < 0 then f_M_fault_0_25 K F1 B1 else if 0 ≤ r1 ∧ r1 < 3 then if r32 (F1 13 r1 76) then (if l2 < (F1 13 r1 76) then if r32 l3 then (if l3 = 0 then if 0 ≤ l2 ∧ l2 < 300 then some (B1 13 r1 77 l2, F1, B1) else none else (if l3 = 1 then if 0 ≤ l2 ∧ l2 < 300 then some (B1 13 r1 78 l2, F1, B1) else none else (if l3 = 2 then if 0 ≤ l2 ∧ l2 < 300 then some (B1 13 r1 79 l2, F1, B1) else none else (if l3 = 3 then if 0 ≤ l2 ∧ l2 < 300 then f_M_fault_0_81 K (B1 13 r1 80 l2) F1 B1 else none else f_M_fault_0_81 K (-1) F1 B1)))) else none else f_M_fault_0_25 K F1 B1) else none else none) else none))
set_option maxHeartbeats 4000000 in
set_option maxRecDepth 100000 in
theorem c_M_fault_0 {l : Launch} {D : va_G} {ca : Nat → ClassId} {ad : Nat → Int → Nat → Nat} {L : List Nat} {aS vS : Nat → Nat} {sz K : Nat}  {l1 : Int} {l2 : Int} {l3 : Int} {F F9 : zF} {B B9 : zB} {r : Int} (hf : f_M_fault_0 K l1 l2 l3 F B = some (r, F9, B9)) : Met l ({ cls := "StaveHouseModel", name := "fault", desc := "(III)I" } : Jvm.MethodName) (Cond.code ({ cls := "StaveHouseModel", name := "fault", desc := "(III)I" } : Jvm.MethodName) prog_15_method_194_code 5 (Option.some Jvm.ClassFile.FieldType.int) :: wAll) ({ frames := 1, cells := 0, slots := 0, locals := 21 } : Room) (va_Pc [.ref (ad 14 0 0), .int (iI l1), .int (iI l2), .int (iI l3)] (zPre D ca ad lnM nM L aS vS F B sz)) (Q_M_fault_0 D ca ad L r F9 B9 (zA L sz)) 0 0 (zA L sz) := by
  refine zMet (Qc := Q_M_fault_0 D ca ad L r F9 B9) (lv := [(0, .ref (ad 14 0 0)), (1, .int (iI l1)), (2, .int (iI l2)), (3, .int (iI l3))]) (by decide) (Nat.le_of_ble_eq_true rfl) rfl (fun A p e s m below meth c ls X hZ hS hl => ?_)
  obtain ⟨hx, hb, hr, hml, hown, hts, hlk, hK, hA, hL, hX⟩ := id X
  replace hf : (zbind (f_M_piece K l1 F B) (fun r1 F1 B1 => (if r1 < 0 then f_M_fault_0_25 K F1 B1 else if r32 l2 then (if l2 < 0 then f_M_fault_0_25 K F1 B1 else if 0 ≤ r1 ∧ r1 < 3 then if r32 (F1 13 r1 76) then (if l2 < (F1 13 r1 76) then if r32 l3 then (if l3 = 0 then if 0 ≤ l2 ∧ l2 < 300 then some (B1 13 r1 77 l2, F1, B1) else none else (if l3 = 1 then if 0 ≤ l2 ∧ l2 < 300 then some (B1 13 r1 78 l2, F1, B1) else none else (if l3 = 2 then if 0 ≤ l2 ∧ l2 < 300 then some (B1 13 r1 79 l2, F1, B1) else none else (if l3 = 3 then if 0 ≤ l2 ∧ l2 < 300 then f_M_fault_0_81 K (B1 13 r1 80 l2) F1 B1 else none else f_M_fault_0_81 K (-1) F1 B1)))) else none else f_M_fault_0_25 K F1 B1) else none else none) else none))) = some (r, F9, B9) := hf
  refine lv_aload_n hx hb (D_42 W_prog_15_method_194_code_0 0 rfl rfl) rfl (lv_at hl 0 rfl) ?_
  refine lv_iload_n hx hb (D_27 W_prog_15_method_194_code_0 1 rfl rfl) rfl (lv_at hl 1 rfl) ?_
  obtain ⟨r1, F1, B1, hc1, hf⟩ := gbind hf
  refine va_callq (va_runV (As := [.int (iI l1)]) (rest := []) ⟨hx, hb, hml, hown, hts⟩ (c_M_piece (l := l) hc1) (cwV 1 hts (gdV k_12_92 k_12_94 ks_131 k_1_9 k_12_95) rfl rfl rfl (by decide +kernel) ⟨Nat.le_of_ble_eq_true rfl, Nat.le_of_ble_eq_true rfl⟩) (zPV X hZ hS (ci := 14) (by decide) (by decide) (r := (RX14, TX14, 107)) rfl [.int (iI l1)]) rfl rfl hl.1 rfl (lv_room (Nat.le_of_ble_eq_true rfl)) (D_182 W_prog_15_method_194_code_0 2 rfl rfl rfl) ⟨Nat.le_of_ble_eq_true rfl, Nat.le_of_ble_eq_true rfl⟩) hS (fun q _ h => zAin X hS q h) (zAin X hS) (fun p1 u1 t1 H1 locs1 ht1 hv1 hw1 hB1 hz1 hk1 hS1 => ?_)
  have hZ1 := zBack X ht1 hB1
  subst hw1
  refine zastore (lv' := [(0, .ref (ad 14 0 0)), (1, .int (iI l1)), (2, .int (iI l2)), (3, .int (iI l3))]) hx hb (D_58 W_prog_15_method_194_code_0 5 rfl rfl) hl (by decide) (fun _ _ => rfl) (fun ls hl => ?_)
  refine zaload hx hb (D_25 W_prog_15_method_194_code_0 7 rfl rfl) (lv_at hl 0 rfl) ?_
  refine zifnull (tgt := 25) hx hb (D_198 W_prog_15_method_194_code_0 9 rfl rfl rfl) (by decide) (fun h2 => ?_) (fun h2 => ?_)
  · replace hf := gpos hf h2
    exact b_M_fault_0_25 X hf hZ1 hS1 (lv_sub hl [] rfl)
  · replace hf := gneg hf h2
    refine lv_iload_n hx hb (D_28 W_prog_15_method_194_code_0 12 rfl rfl) rfl (lv_at hl 3 rfl) ?_
    obtain ⟨g3, hf⟩ := gif hf
    refine z0lt (tgt := 25) hx hb g3 (D_155 W_prog_15_method_194_code_0 13 rfl rfl rfl) (by decide) (fun h4 => ?_) (fun h4 => ?_)
    · replace hf := gpos hf h4
      exact b_M_fault_0_25 X hf hZ1 hS1 (lv_sub hl [] rfl)
    · replace hf := gneg hf h4
      refine lv_iload_n hx hb (D_28 W_prog_15_method_194_code_0 16 rfl rfl) rfl (lv_at hl 3 rfl) ?_
      refine zaload hx hb (D_25 W_prog_15_method_194_code_0 17 rfl rfl) (lv_at hl 0 rfl) ?_
      obtain ⟨g5, hf⟩ := gif hf
      refine zunrf g5.1 ?_
      refine zget (ci := 13) (C := RX13) (T := TX13) (v := .int (iI (F1 13 r1 76))) (k := 76) hx hb hts inW_13 hown hK hZ1 g5.1 g5.2 rfl (by decide) k_10_18 rfl (D_180 W_prog_15_method_194_code_0 19 rfl rfl rfl) ?_
      obtain ⟨g6, hf⟩ := gif hf
      refine zlt (tgt := 27) hx hb g3 g6 (D_161 W_prog_15_method_194_code_0 22 rfl rfl rfl) (by decide) (fun h7 => ?_) (fun h7 => ?_)
      · replace hf := gpos hf h7
        refine lv_iload_n hx hb (D_29 W_prog_15_method_194_code_0 27 rfl rfl) rfl (lv_at hl 4 rfl) ?_
        obtain ⟨g8, hf⟩ := gif hf
        refine z0ne (tgt := 39) hx hb g8 (D_154 W_prog_15_method_194_code_0 28 rfl rfl rfl) (by decide) (fun h9 => ?_) (fun h9 => ?_)
        · replace hf := gneg hf h9
          refine lv_iload_n hx hb (D_29 W_prog_15_method_194_code_32 7 rfl rfl) rfl (lv_at hl 4 rfl) ?_
          refine lv_iconst (v := iI 1) hx hb (D_4 W_prog_15_method_194_code_32 8 rfl rfl) rfl ?_
          refine zne (tgt := 52) hx hb g8 (by decide) (D_160 W_prog_15_method_194_code_32 9 rfl rfl rfl) (by decide) (fun h10 => ?_) (fun h10 => ?_)
          · replace hf := gneg hf h10
            refine lv_iload_n hx hb (D_29 W_prog_15_method_194_code_32 20 rfl rfl) rfl (lv_at hl 4 rfl) ?_
            refine lv_iconst (v := iI 2) hx hb (D_5 W_prog_15_method_194_code_32 21 rfl rfl) rfl ?_
            refine zne (tgt := 65) hx hb g8 (by decide) (D_160 W_prog_15_method_194_code_32 22 rfl rfl rfl) (by decide) (fun h11 => ?_) (fun h11 => ?_)
            · replace hf := gneg hf h11
              refine lv_iload_n hx hb (D_29 W_prog_15_method_194_code_64 1 rfl rfl) rfl (lv_at hl 4 rfl) ?_
              refine lv_iconst (v := iI 3) hx hb (D_6 W_prog_15_method_194_code_64 2 rfl rfl) rfl ?_
              refine zne (tgt := 80) hx hb g8 (by decide) (D_160 W_prog_15_method_194_code_64 3 rfl rfl rfl) (by decide) (fun h12 => ?_) (fun h12 => ?_)
              · replace hf := gneg hf h12
                refine lv_iconst (v := iI (-1)) hx hb (D_2 W_prog_15_method_194_code_64 16 rfl rfl) rfl ?_
                exact b_M_fault_0_81 X hf hZ1 hS1 (lv_sub hl [] rfl)
              · replace hf := gpos hf h12
                refine zaload hx hb (D_25 W_prog_15_method_194_code_64 6 rfl rfl) (lv_at hl 0 rfl) ?_
                refine zunrf g5.1 ?_
                refine zget (ci := 13) (C := RX13) (T := TX13) (v := .ref (ad 13 r1 (80 + 1))) (k := 80) hx hb hts inW_13 hown hK hZ1 g5.1 g5.2 rfl (by decide) k_10_26 rfl (D_180 W_prog_15_method_194_code_64 8 rfl rfl rfl) ?_
                refine lv_iload_n hx hb (D_28 W_prog_15_method_194_code_64 11 rfl rfl) rfl (lv_at hl 3 rfl) ?_
                obtain ⟨g13, hf⟩ := gif hf
                refine zald (ci := 13) (k := 80) hx hb hK rfl hZ1 g5.1 g5.2 rfl (Nat.le_of_ble_eq_true rfl) g13.1 g13.2 (D_46 W_prog_15_method_194_code_64 12 rfl rfl) ?_
                refine lv_goto (tgt := 81) hx hb (D_167 W_prog_15_method_194_code_64 13 rfl rfl rfl) (by decide) ?_
                exact b_M_fault_0_81 X hf hZ1 hS1 (lv_sub hl [] rfl)
            · replace hf := gpos hf h11
              refine zaload hx hb (D_25 W_prog_15_method_194_code_32 25 rfl rfl) (lv_at hl 0 rfl) ?_
              refine zunrf g5.1 ?_
              refine zget (ci := 13) (C := RX13) (T := TX13) (v := .ref (ad 13 r1 (79 + 1))) (k := 79) hx hb hts inW_13 hown hK hZ1 g5.1 g5.2 rfl (by decide) k_10_24 rfl (D_180 W_prog_15_method_194_code_32 27 rfl rfl rfl) ?_
              refine lv_iload_n hx hb (D_28 W_prog_15_method_194_code_32 30 rfl rfl) rfl (lv_at hl 3 rfl) ?_
              obtain ⟨g14, hf⟩ := gif hf
              refine zald (ci := 13) (k := 79) hx hb hK rfl hZ1 g5.1 g5.2 rfl (Nat.le_of_ble_eq_true rfl) g14.1 g14.2 (D_46 W_prog_15_method_194_code_32 31 rfl rfl) ?_
              cases hf
              exact W.iret hx hb hr (fun t ht hW => ⟨⟨_, (), rfl, rfl, by rw [ht]; exact hZ1, va_K.moved hW.alike hK⟩, hS1.F ht⟩) hS1.2.2 (D_172 W_prog_15_method_194_code_64 0 rfl rfl) hlk
          · replace hf := gpos hf h10
            refine zaload hx hb (D_25 W_prog_15_method_194_code_32 12 rfl rfl) (lv_at hl 0 rfl) ?_
            refine zunrf g5.1 ?_
            refine zget (ci := 13) (C := RX13) (T := TX13) (v := .ref (ad 13 r1 (78 + 1))) (k := 78) hx hb hts inW_13 hown hK hZ1 g5.1 g5.2 rfl (by decide) k_10_22 rfl (D_180 W_prog_15_method_194_code_32 14 rfl rfl rfl) ?_
            refine lv_iload_n hx hb (D_28 W_prog_15_method_194_code_32 17 rfl rfl) rfl (lv_at hl 3 rfl) ?_
            obtain ⟨g15, hf⟩ := gif hf
            refine zald (ci := 13) (k := 78) hx hb hK rfl hZ1 g5.1 g5.2 rfl (Nat.le_of_ble_eq_true rfl) g15.1 g15.2 (D_46 W_prog_15_method_194_code_32 18 rfl rfl) ?_
            cases hf
            exact W.iret hx hb hr (fun t ht hW => ⟨⟨_, (), rfl, rfl, by rw [ht]; exact hZ1, va_K.moved hW.alike hK⟩, hS1.F ht⟩) hS1.2.2 (D_172 W_prog_15_method_194_code_32 19 rfl rfl) hlk
        · replace hf := gpos hf h9
          refine zaload hx hb (D_25 W_prog_15_method_194_code_0 31 rfl rfl) (lv_at hl 0 rfl) ?_
          refine zunrf g5.1 ?_
          refine zget (ci := 13) (C := RX13) (T := TX13) (v := .ref (ad 13 r1 (77 + 1))) (k := 77) hx hb hts inW_13 hown hK hZ1 g5.1 g5.2 rfl (by decide) k_10_20 rfl (D_180 W_prog_15_method_194_code_32 1 rfl rfl rfl) ?_
          refine lv_iload_n hx hb (D_28 W_prog_15_method_194_code_32 4 rfl rfl) rfl (lv_at hl 3 rfl) ?_
          obtain ⟨g16, hf⟩ := gif hf
          refine zald (ci := 13) (k := 77) hx hb hK rfl hZ1 g5.1 g5.2 rfl (Nat.le_of_ble_eq_true rfl) g16.1 g16.2 (D_46 W_prog_15_method_194_code_32 5 rfl rfl) ?_
          cases hf
          exact W.iret hx hb hr (fun t ht hW => ⟨⟨_, (), rfl, rfl, by rw [ht]; exact hZ1, va_K.moved hW.alike hK⟩, hS1.F ht⟩) hS1.2.2 (D_172 W_prog_15_method_194_code_32 6 rfl rfl) hlk
      · replace hf := gneg hf h7
        exact b_M_fault_0_25 X hf hZ1 hS1 (lv_sub hl [] rfl)

abbrev Q_M_firstSounding (D : va_G) (ca : Nat → ClassId) (ad : Nat → Int → Nat → Nat) (L : List Nat) (r : Int) (F : zF) (B : zB) (A : Nat → Prop) : Array Value → State → Outcome → State → Prop := va_Qi (S := Unit) (fun p _ => p = iI r) (fun _ => zPo D ca ad lnM nM L F B A) A
def f_M_firstSounding_54 (K : Nat) (s0 : Int) (F : zF) (B : zB) : zO := some (s0, F, B)
set_option maxHeartbeats 4000000 in
set_option maxRecDepth 100000 in
theorem b_M_firstSounding_54 {D : va_G} {ca : Nat → ClassId} {ad : Nat → Int → Nat → Nat} {L : List Nat} {aS vS : Nat → Nat} {A : Nat → Prop} {p : Program} {l : Launch} {e : Env} {s : State} {m : MethodId} {args : Array Value} {below : List Frame} {meth : Method} {c : Code} {K : Nat} {r : Int} {F9 : zF} {B9 : zB} (X : zX D ca L aS vS A p s m args meth c prog_15_method_196_code 3 (Option.some Jvm.ClassFile.FieldType.int) "StaveHouseModel") {s0 : Int} {F : zF} {B : zB} {H : Heap} {locs : List Loc} {ls : Array Slot} (hf : f_M_firstSounding_54 K s0 F B = some (r, F9, B9)) (hZ : zH D ca ad lnM nM L F B A H) (hS : va_S A s.heap H locs) (hl : lv_has ls 3 []) : W p l e ({ frames := 0, cells := 0, slots := 0, locals := 0 } : Room) s m args below meth c H locs 0 0 (MQ below (Q_M_firstSounding D ca ad L r F9 B9 A) args s 0 0 A) (F0 m 54 ls [.int (iI s0)]) := by
  obtain ⟨hx, hb, hr, hml, hown, hts, hlk, hK, hA, hL, hX⟩ := id X
  replace hf : (some (s0, F, B)) = some (r, F9, B9) := hf
  cases hf
  exact W.iret hx hb hr (fun t ht hW => ⟨⟨_, (), rfl, rfl, by rw [ht]; exact hZ, va_K.moved hW.alike hK⟩, hS.F ht⟩) hS.2.2 (D_172 W_prog_15_method_196_code_32 22 rfl rfl) hlk

def f_M_firstSounding_33 (K : Nat) (l2 : Int) (l0 : Int) (l1 : Int) (F : zF) (B : zB) : zO := if 0 ≤ l0 ∧ l0 < 3 then if 0 ≤ l1 ∧ l1 < 4 then if r32 l2 then if r32 (B 13 l0 12 l1) then (if (B 13 l0 12 l1) ≤ l2 then f_M_firstSounding_54 K (-1) F B else f_M_firstSounding_54 K ((1000 * l1) + l2) F B) else none else none else none else none
set_option maxHeartbeats 4000000 in
set_option maxRecDepth 100000 in
theorem b_M_firstSounding_33 {D : va_G} {ca : Nat → ClassId} {ad : Nat → Int → Nat → Nat} {L : List Nat} {aS vS : Nat → Nat} {A : Nat → Prop} {p : Program} {l : Launch} {e : Env} {s : State} {m : MethodId} {args : Array Value} {below : List Frame} {meth : Method} {c : Code} {K : Nat} {r : Int} {F9 : zF} {B9 : zB} (X : zX D ca L aS vS A p s m args meth c prog_15_method_196_code 3 (Option.some Jvm.ClassFile.FieldType.int) "StaveHouseModel") {l2 : Int} {l0 : Int} {l1 : Int} {F : zF} {B : zB} {H : Heap} {locs : List Loc} {ls : Array Slot} (hf : f_M_firstSounding_33 K l2 l0 l1 F B = some (r, F9, B9)) (hZ : zH D ca ad lnM nM L F B A H) (hS : va_S A s.heap H locs) (hl : lv_has ls 3 [(2, .int (iI l2)), (0, .ref (ad 13 l0 0)), (1, .int (iI l1))]) : W p l e ({ frames := 0, cells := 0, slots := 0, locals := 0 } : Room) s m args below meth c H locs 0 0 (MQ below (Q_M_firstSounding D ca ad L r F9 B9 A) args s 0 0 A) (F0 m 33 ls []) := by
  obtain ⟨hx, hb, hr, hml, hown, hts, hlk, hK, hA, hL, hX⟩ := id X
  replace hf : (if 0 ≤ l0 ∧ l0 < 3 then if 0 ≤ l1 ∧ l1 < 4 then if r32 l2 then if r32 (B 13 l0 12 l1) then (if (B 13 l0 12 l1) ≤ l2 then f_M_firstSounding_54 K (-1) F B else f_M_firstSounding_54 K ((1000 * l1) + l2) F B) else none else none else none else none) = some (r, F9, B9) := hf
  refine lv_iload_n hx hb (D_28 W_prog_15_method_196_code_32 1 rfl rfl) rfl (lv_at hl 0 rfl) ?_
  refine lv_aload_n hx hb (D_42 W_prog_15_method_196_code_32 2 rfl rfl) rfl (lv_at hl 1 rfl) ?_
  obtain ⟨g9, hf⟩ := gif hf
  refine zget (ci := 13) (C := RX13) (T := TX13) (v := .ref (ad 13 l0 (12 + 1))) (k := 12) hx hb hts inW_13 hown hK hZ g9.1 g9.2 rfl (by decide) k_9_142 rfl (D_180 W_prog_15_method_196_code_32 3 rfl rfl rfl) ?_
  refine lv_iload_n hx hb (D_27 W_prog_15_method_196_code_32 6 rfl rfl) rfl (lv_at hl 2 rfl) ?_
  obtain ⟨g10, hf⟩ := gif hf
  refine zald (ci := 13) (k := 12) hx hb hK rfl hZ g9.1 g9.2 rfl (Nat.le_of_ble_eq_true rfl) g10.1 g10.2 (D_46 W_prog_15_method_196_code_32 7 rfl rfl) ?_
  obtain ⟨g11, hf⟩ := gif hf
  obtain ⟨g12, hf⟩ := gif hf
  refine zge (tgt := 53) hx hb g11 g12 (D_162 W_prog_15_method_196_code_32 8 rfl rfl rfl) (by decide) (fun h13 => ?_) (fun h13 => ?_)
  · replace hf := gpos hf h13
    refine lv_iconst (v := iI (-1)) hx hb (D_2 W_prog_15_method_196_code_32 21 rfl rfl) rfl ?_
    exact b_M_firstSounding_54 X hf hZ hS (lv_sub hl [] rfl)
  · replace hf := gneg hf h13
    refine lv_sipush (v := iI 1000) hx hb (D_17 W_prog_15_method_196_code_32 11 rfl rfl rfl) (by decide) ?_
    refine lv_iload_n hx hb (D_27 W_prog_15_method_196_code_32 14 rfl rfl) rfl (lv_at hl 2 rfl) ?_
    refine zmul hx hb (D_104 W_prog_15_method_196_code_32 15 rfl rfl) ?_
    refine lv_iload_n hx hb (D_28 W_prog_15_method_196_code_32 16 rfl rfl) rfl (lv_at hl 0 rfl) ?_
    refine zadd hx hb (D_96 W_prog_15_method_196_code_32 17 rfl rfl) ?_
    refine lv_goto (tgt := 54) hx hb (D_167 W_prog_15_method_196_code_32 18 rfl rfl rfl) (by decide) ?_
    exact b_M_firstSounding_54 X hf hZ hS (lv_sub hl [] rfl)

def f_M_firstSounding_2 (K : Nat) : Nat → Int → Int → Int → zF → zB → zO
  | 0, _, _, _, _, _ => none
  | n + 1, l2, l0, l1, F, B => if 0 ≤ l0 ∧ l0 < 3 then if 0 ≤ l1 ∧ l1 < 4 then if r32 l2 then if r32 (B 13 l0 12 l1) then (if (B 13 l0 12 l1) ≤ l2 then f_M_firstSounding_33 K l2 l0 l1 F B else if 0 ≤ ((1000 * l1) + l2) ∧ ((1000 * l1) + l2) < 4000 then if r32 (B 13 l0 21 ((1000 * l1) + l2)) then (if (B 13 l0 21 ((1000 * l1) + l2)) = 0 then f_M_firstSounding_2 K n (l2 + 1) l0 l1 F B else f_M_firstSounding_33 K l2 l0 l1 F B) else none else none) else none else none else none else none
set_option maxHeartbeats 4000000 in
set_option maxRecDepth 100000 in
theorem b_M_firstSounding_2 {D : va_G} {ca : Nat → ClassId} {ad : Nat → Int → Nat → Nat} {L : List Nat} {aS vS : Nat → Nat} {A : Nat → Prop} {p : Program} {l : Launch} {e : Env} {s : State} {m : MethodId} {args : Array Value} {below : List Frame} {meth : Method} {c : Code} {K : Nat} {r : Int} {F9 : zF} {B9 : zB} (X : zX D ca L aS vS A p s m args meth c prog_15_method_196_code 3 (Option.some Jvm.ClassFile.FieldType.int) "StaveHouseModel") : ∀ {n : Nat} {l2 : Int} {l0 : Int} {l1 : Int} {F : zF} {B : zB} {H : Heap} {locs : List Loc} {ls : Array Slot}, f_M_firstSounding_2 K n l2 l0 l1 F B = some (r, F9, B9) → zH D ca ad lnM nM L F B A H → va_S A s.heap H locs → lv_has ls 3 [(2, .int (iI l2)), (0, .ref (ad 13 l0 0)), (1, .int (iI l1))] → W p l e ({ frames := 0, cells := 0, slots := 0, locals := 0 } : Room) s m args below meth c H locs 0 0 (MQ below (Q_M_firstSounding D ca ad L r F9 B9 A) args s 0 0 A) (F0 m 2 ls []) := by
  obtain ⟨hx, hb, hr, hml, hown, hts, hlk, hK, hA, hL, hX⟩ := id X
  intro n
  induction n with
  | zero =>
    intros
    rename_i hf _ _ _
    cases hf
  | succ n ih =>
    intro l2 l0 l1 F B H locs ls hf hZ hS hl
    replace hf : (if 0 ≤ l0 ∧ l0 < 3 then if 0 ≤ l1 ∧ l1 < 4 then if r32 l2 then if r32 (B 13 l0 12 l1) then (if (B 13 l0 12 l1) ≤ l2 then f_M_firstSounding_33 K l2 l0 l1 F B else if 0 ≤ ((1000 * l1) + l2) ∧ ((1000 * l1) + l2) < 4000 then if r32 (B 13 l0 21 ((1000 * l1) + l2)) then (if (B 13 l0 21 ((1000 * l1) + l2)) = 0 then f_M_firstSounding_2 K n (l2 + 1) l0 l1 F B else f_M_firstSounding_33 K l2 l0 l1 F B) else none else none) else none else none else none else none) = some (r, F9, B9) := hf
    refine lv_iload_n hx hb (D_28 W_prog_15_method_196_code_0 2 rfl rfl) rfl (lv_at hl 0 rfl) ?_
    refine lv_aload_n hx hb (D_42 W_prog_15_method_196_code_0 3 rfl rfl) rfl (lv_at hl 1 rfl) ?_
    obtain ⟨g1, hf⟩ := gif hf
    refine zget (ci := 13) (C := RX13) (T := TX13) (v := .ref (ad 13 l0 (12 + 1))) (k := 12) hx hb hts inW_13 hown hK hZ g1.1 g1.2 rfl (by decide) k_9_142 rfl (D_180 W_prog_15_method_196_code_0 4 rfl rfl rfl) ?_
    refine lv_iload_n hx hb (D_27 W_prog_15_method_196_code_0 7 rfl rfl) rfl (lv_at hl 2 rfl) ?_
    obtain ⟨g2, hf⟩ := gif hf
    refine zald (ci := 13) (k := 12) hx hb hK rfl hZ g1.1 g1.2 rfl (Nat.le_of_ble_eq_true rfl) g2.1 g2.2 (D_46 W_prog_15_method_196_code_0 8 rfl rfl) ?_
    obtain ⟨g3, hf⟩ := gif hf
    obtain ⟨g4, hf⟩ := gif hf
    refine zge (tgt := 33) hx hb g3 g4 (D_162 W_prog_15_method_196_code_0 9 rfl rfl rfl) (by decide) (fun h5 => ?_) (fun h5 => ?_)
    · replace hf := gpos hf h5
      exact b_M_firstSounding_33 X hf hZ hS (lv_sub hl [0, 1, 2] rfl)
    · replace hf := gneg hf h5
      refine lv_aload_n hx hb (D_42 W_prog_15_method_196_code_0 12 rfl rfl) rfl (lv_at hl 1 rfl) ?_
      refine zget (ci := 13) (C := RX13) (T := TX13) (v := .ref (ad 13 l0 (21 + 1))) (k := 21) hx hb hts inW_13 hown hK hZ g1.1 g1.2 rfl (by decide) k_9_160 rfl (D_180 W_prog_15_method_196_code_0 13 rfl rfl rfl) ?_
      refine lv_sipush (v := iI 1000) hx hb (D_17 W_prog_15_method_196_code_0 16 rfl rfl rfl) (by decide) ?_
      refine lv_iload_n hx hb (D_27 W_prog_15_method_196_code_0 19 rfl rfl) rfl (lv_at hl 2 rfl) ?_
      refine zmul hx hb (D_104 W_prog_15_method_196_code_0 20 rfl rfl) ?_
      refine lv_iload_n hx hb (D_28 W_prog_15_method_196_code_0 21 rfl rfl) rfl (lv_at hl 0 rfl) ?_
      refine zadd hx hb (D_96 W_prog_15_method_196_code_0 22 rfl rfl) ?_
      obtain ⟨g6, hf⟩ := gif hf
      refine zald (ci := 13) (k := 21) hx hb hK rfl hZ g1.1 g1.2 rfl (Nat.le_of_ble_eq_true rfl) g6.1 g6.2 (D_46 W_prog_15_method_196_code_0 23 rfl rfl) ?_
      obtain ⟨g7, hf⟩ := gif hf
      refine z0ne (tgt := 33) hx hb g7 (D_154 W_prog_15_method_196_code_0 24 rfl rfl rfl) (by decide) (fun h8 => ?_) (fun h8 => ?_)
      · replace hf := gneg hf h8
        exact b_M_firstSounding_33 X hf hZ hS (lv_sub hl [0, 1, 2] rfl)
      · replace hf := gpos hf h8
        refine lv_iinc (v := iI (l2 + 1)) (lv' := [(2, .int (iI (l2 + 1))), (0, .ref (ad 13 l0 0)), (1, .int (iI l1))]) hx hb d_15_196_27 hl (k := 0) rfl (iI_add _ 1) (by decide) rfl (fun ls hl => ?_)
        refine lv_goto (tgt := 2) hx hb (D_167 W_prog_15_method_196_code_0 30 rfl rfl rfl) (by decide) ?_
        exact ih hf hZ hS (lv_sub hl [0, 1, 2] rfl)

def f_M_firstSounding (K : Nat) (l0 : Int) (l1 : Int) (F : zF) (B : zB) : zO := f_M_firstSounding_2 K K 0 l0 l1 F B
set_option maxHeartbeats 4000000 in
set_option maxRecDepth 100000 in
theorem c_M_firstSounding {l : Launch} {D : va_G} {ca : Nat → ClassId} {ad : Nat → Int → Nat → Nat} {L : List Nat} {aS vS : Nat → Nat} {sz K : Nat}  {l0 : Int} {l1 : Int} {F F9 : zF} {B B9 : zB} {r : Int} (hf : f_M_firstSounding K l0 l1 F B = some (r, F9, B9)) : Met l ({ cls := "StaveHouseModel", name := "firstSounding", desc := "(LStaveHouseModel$Piece;I)I" } : Jvm.MethodName) (Cond.code ({ cls := "StaveHouseModel", name := "firstSounding", desc := "(LStaveHouseModel$Piece;I)I" } : Jvm.MethodName) prog_15_method_196_code 3 (Option.some Jvm.ClassFile.FieldType.int) :: wAll) ({ frames := 0, cells := 0, slots := 0, locals := 0 } : Room) (va_Pc [.ref (ad 13 l0 0), .int (iI l1)] (zPre D ca ad lnM nM L aS vS F B sz)) (Q_M_firstSounding D ca ad L r F9 B9 (zA L sz)) 0 0 (zA L sz) := by
  refine zMet (Qc := Q_M_firstSounding D ca ad L r F9 B9) (lv := [(0, .ref (ad 13 l0 0)), (1, .int (iI l1))]) (by decide) (Nat.le_of_ble_eq_true rfl) rfl (fun A p e s m below meth c ls X hZ hS hl => ?_)
  obtain ⟨hx, hb, hr, hml, hown, hts, hlk, hK, hA, hL, hX⟩ := id X
  replace hf : (f_M_firstSounding_2 K K 0 l0 l1 F B) = some (r, F9, B9) := hf
  refine lv_iconst (v := iI 0) hx hb (D_3 W_prog_15_method_196_code_0 0 rfl rfl) rfl ?_
  refine lv_istore_n (lv' := [(2, .int (iI 0)), (0, .ref (ad 13 l0 0)), (1, .int (iI l1))]) hx hb (D_61 W_prog_15_method_196_code_0 1 rfl rfl) rfl hl (by decide) rfl (fun ls hl => ?_)
  exact b_M_firstSounding_2 X hf hZ hS (lv_sub hl [0, 1, 2] rfl)

abbrev Q_M_lineOf (D : va_G) (ca : Nat → ClassId) (ad : Nat → Int → Nat → Nat) (L : List Nat) (r : Int) (F : zF) (B : zB) (A : Nat → Prop) : Array Value → State → Outcome → State → Prop := va_Qi (S := Unit) (fun p _ => p = iI r) (fun _ => zPo D ca ad lnM nM L F B A) A
def f_M_lineOf_61 (rec7 : Int → Int → Int → Int → zF → zB → zO) (K : Nat) (l3 : Int) (l2 : Int) (l0 : Int) (l1 : Int) (F : zF) (B : zB) : zO := rec7 (l3 + 1) l2 l0 l1 F B
set_option maxHeartbeats 4000000 in
set_option maxRecDepth 100000 in
theorem b_M_lineOf_61 {D : va_G} {ca : Nat → ClassId} {ad : Nat → Int → Nat → Nat} {L : List Nat} {aS vS : Nat → Nat} {A : Nat → Prop} {p : Program} {l : Launch} {e : Env} {s : State} {m : MethodId} {args : Array Value} {below : List Frame} {meth : Method} {c : Code} {K : Nat} {r : Int} {F9 : zF} {B9 : zB} (X : zX D ca L aS vS A p s m args meth c prog_15_method_182_code 4 (Option.some Jvm.ClassFile.FieldType.int) "StaveHouseModel") {rec7 : Int → Int → Int → Int → zF → zB → zO} (hrec7 : ∀ {l3 : Int} {l2 : Int} {l0 : Int} {l1 : Int} {F : zF} {B : zB} {H : Heap} {locs : List Loc} {ls : Array Slot}, rec7 l3 l2 l0 l1 F B = some (r, F9, B9) → zH D ca ad lnM nM L F B A H → va_S A s.heap H locs → lv_has ls 4 [(3, .int (iI l3)), (2, .int (iI l2)), (0, .ref (ad 13 l0 0)), (1, .int (iI l1))] → W p l e ({ frames := 1, cells := 0, slots := 0, locals := 23 } : Room) s m args below meth c H locs 0 0 (MQ below (Q_M_lineOf D ca ad L r F9 B9 A) args s 0 0 A) (F0 m 7 ls [])) {l3 : Int} {l2 : Int} {l0 : Int} {l1 : Int} {F : zF} {B : zB} {H : Heap} {locs : List Loc} {ls : Array Slot} (hf : f_M_lineOf_61 rec7 K l3 l2 l0 l1 F B = some (r, F9, B9)) (hZ : zH D ca ad lnM nM L F B A H) (hS : va_S A s.heap H locs) (hl : lv_has ls 4 [(3, .int (iI l3)), (2, .int (iI l2)), (0, .ref (ad 13 l0 0)), (1, .int (iI l1))]) : W p l e ({ frames := 1, cells := 0, slots := 0, locals := 23 } : Room) s m args below meth c H locs 0 0 (MQ below (Q_M_lineOf D ca ad L r F9 B9 A) args s 0 0 A) (F0 m 61 ls []) := by
  obtain ⟨hx, hb, hr, hml, hown, hts, hlk, hK, hA, hL, hX⟩ := id X
  replace hf : (rec7 (l3 + 1) l2 l0 l1 F B) = some (r, F9, B9) := hf
  refine lv_iinc (v := iI (l3 + 1)) (lv' := [(3, .int (iI (l3 + 1))), (2, .int (iI l2)), (0, .ref (ad 13 l0 0)), (1, .int (iI l1))]) hx hb d_15_182_61 hl (k := 0) rfl (iI_add _ 1) (by decide) rfl (fun ls hl => ?_)
  refine lv_goto (tgt := 7) hx hb (D_167 W_prog_15_method_182_code_64 0 rfl rfl rfl) (by decide) ?_
  exact hrec7 hf hZ hS (lv_sub hl [0, 1, 2, 3] rfl)

def f_M_lineOf_59 (rec7 : Int → Int → Int → Int → zF → zB → zO) (K : Nat) (l3 : Int) (l0 : Int) (l1 : Int) (F : zF) (B : zB) : zO := f_M_lineOf_61 rec7 K l3 l3 l0 l1 F B
set_option maxHeartbeats 4000000 in
set_option maxRecDepth 100000 in
theorem b_M_lineOf_59 {D : va_G} {ca : Nat → ClassId} {ad : Nat → Int → Nat → Nat} {L : List Nat} {aS vS : Nat → Nat} {A : Nat → Prop} {p : Program} {l : Launch} {e : Env} {s : State} {m : MethodId} {args : Array Value} {below : List Frame} {meth : Method} {c : Code} {K : Nat} {r : Int} {F9 : zF} {B9 : zB} (X : zX D ca L aS vS A p s m args meth c prog_15_method_182_code 4 (Option.some Jvm.ClassFile.FieldType.int) "StaveHouseModel") {rec7 : Int → Int → Int → Int → zF → zB → zO} (hrec7 : ∀ {l3 : Int} {l2 : Int} {l0 : Int} {l1 : Int} {F : zF} {B : zB} {H : Heap} {locs : List Loc} {ls : Array Slot}, rec7 l3 l2 l0 l1 F B = some (r, F9, B9) → zH D ca ad lnM nM L F B A H → va_S A s.heap H locs → lv_has ls 4 [(3, .int (iI l3)), (2, .int (iI l2)), (0, .ref (ad 13 l0 0)), (1, .int (iI l1))] → W p l e ({ frames := 1, cells := 0, slots := 0, locals := 23 } : Room) s m args below meth c H locs 0 0 (MQ below (Q_M_lineOf D ca ad L r F9 B9 A) args s 0 0 A) (F0 m 7 ls [])) {l3 : Int} {l0 : Int} {l1 : Int} {F : zF} {B : zB} {H : Heap} {locs : List Loc} {ls : Array Slot} (hf : f_M_lineOf_59 rec7 K l3 l0 l1 F B = some (r, F9, B9)) (hZ : zH D ca ad lnM nM L F B A H) (hS : va_S A s.heap H locs) (hl : lv_has ls 4 [(3, .int (iI l3)), (0, .ref (ad 13 l0 0)), (1, .int (iI l1))]) : W p l e ({ frames := 1, cells := 0, slots := 0, locals := 23 } : Room) s m args below meth c H locs 0 0 (MQ below (Q_M_lineOf D ca ad L r F9 B9 A) args s 0 0 A) (F0 m 59 ls []) := by
  obtain ⟨hx, hb, hr, hml, hown, hts, hlk, hK, hA, hL, hX⟩ := id X
  replace hf : (f_M_lineOf_61 rec7 K l3 l3 l0 l1 F B) = some (r, F9, B9) := hf
  refine lv_iload_n hx hb (D_29 W_prog_15_method_182_code_32 27 rfl rfl) rfl (lv_at hl 0 rfl) ?_
  refine lv_istore_n (lv' := [(2, .int (iI l3)), (3, .int (iI l3)), (0, .ref (ad 13 l0 0)), (1, .int (iI l1))]) hx hb (D_61 W_prog_15_method_182_code_32 28 rfl rfl) rfl hl (by decide) rfl (fun ls hl => ?_)
  exact b_M_lineOf_61 X hrec7 hf hZ hS (lv_sub hl [1, 0, 2, 3] rfl)

def f_M_lineOf_7 (K : Nat) : Nat → Int → Int → Int → Int → zF → zB → zO
  | 0, _, _, _, _, _, _ => none
  | n + 1, l3, l2, l0, l1, F, B => if 0 ≤ l0 ∧ l0 < 3 then if 0 ≤ l1 ∧ l1 < 4000 then if r32 l3 then if r32 ((6 * l1) + (B 13 l0 21 l1)) then (if ((6 * l1) + (B 13 l0 21 l1)) ≤ l3 then some (l2, F, B) else if r32 l2 then (if l2 < 0 then f_M_lineOf_59 (f_M_lineOf_7 K n) K l3 l0 l1 F B else if 0 ≤ l3 ∧ l3 < 24000 then zbind (f_M_tone K (B 13 l0 28 l3) (B 13 l0 29 l3) F B) (fun r9 F9 B9 => if 0 ≤ l2 ∧ l2 < 24000 then zbind (f_M_tone K (B9 13 l0 28 l2) (B9 13 l0 29 l2) F9 B9) (fun r11 F11 B11 => if r32 r9 then if r32 r11 then (if r9 < r11 then f_M_lineOf_61 (f_M_lineOf_7 K n) K l3 l2 l0 l1 F11 B11 else f_M_lineOf_59 (f_M_lineOf_7 K n) K l3 l0 l1 F11 B11) else none else none) else none) else none) else none) else none else none else none else none
set_option maxHeartbeats 4000000 in
set_option maxRecDepth 100000 in
theorem b_M_lineOf_7 {D : va_G} {ca : Nat → ClassId} {ad : Nat → Int → Nat → Nat} {L : List Nat} {aS vS : Nat → Nat} {A : Nat → Prop} {p : Program} {l : Launch} {e : Env} {s : State} {m : MethodId} {args : Array Value} {below : List Frame} {meth : Method} {c : Code} {K : Nat} {r : Int} {F9 : zF} {B9 : zB} (X : zX D ca L aS vS A p s m args meth c prog_15_method_182_code 4 (Option.some Jvm.ClassFile.FieldType.int) "StaveHouseModel") : ∀ {n : Nat} {l3 : Int} {l2 : Int} {l0 : Int} {l1 : Int} {F : zF} {B : zB} {H : Heap} {locs : List Loc} {ls : Array Slot}, f_M_lineOf_7 K n l3 l2 l0 l1 F B = some (r, F9, B9) → zH D ca ad lnM nM L F B A H → va_S A s.heap H locs → lv_has ls 4 [(3, .int (iI l3)), (2, .int (iI l2)), (0, .ref (ad 13 l0 0)), (1, .int (iI l1))] → W p l e ({ frames := 1, cells := 0, slots := 0, locals := 23 } : Room) s m args below meth c H locs 0 0 (MQ below (Q_M_lineOf D ca ad L r F9 B9 A) args s 0 0 A) (F0 m 7 ls []) := by
  obtain ⟨hx, hb, hr, hml, hown, hts, hlk, hK, hA, hL, hX⟩ := id X
  intro n
  induction n with
  | zero =>
    intros
    rename_i hf _ _ _
    cases hf
  | succ n ih =>
    intro l3 l2 l0 l1 F B H locs ls hf hZ hS hl
    replace hf : (if 0 ≤ l0 ∧ l0 < 3 then if 0 ≤ l1 ∧ l1 < 4000 then if r32 l3 then if r32 ((6 * l1) + (B 13 l0 21 l1)) then (if ((6 * l1) + (B 13 l0 21 l1)) ≤ l3 then some (l2, F, B) else if r32 l2 then (if l2 < 0 then f_M_lineOf_59 (f_M_lineOf_7 K n) K l3 l0 l1 F B else if 0 ≤ l3 ∧ l3 < 24000 then zbind (f_M_tone K (B 13 l0 28 l3) (B 13 l0 29 l3) F B) (fun r9 F9 B9 => if 0 ≤ l2 ∧ l2 < 24000 then zbind (f_M_tone K (B9 13 l0 28 l2) (B9 13 l0 29 l2) F9 B9) (fun r11 F11 B11 => if r32 r9 then if r32 r11 then (if r9 < r11 then f_M_lineOf_61 (f_M_lineOf_7 K n) K l3 l2 l0 l1 F11 B11 else f_M_lineOf_59 (f_M_lineOf_7 K n) K l3 l0 l1 F11 B11) else none else none) else none) else none) else none) else none else none else none else none) = some (r, F9, B9) := hf
    refine lv_iload_n hx hb (D_29 W_prog_15_method_182_code_0 7 rfl rfl) rfl (lv_at hl 0 rfl) ?_
    refine lv_bipush (v := iI 6) hx hb (D_16 W_prog_15_method_182_code_0 8 rfl rfl rfl) (by decide) ?_
    refine lv_iload_n hx hb (D_27 W_prog_15_method_182_code_0 10 rfl rfl) rfl (lv_at hl 3 rfl) ?_
    refine zmul hx hb (D_104 W_prog_15_method_182_code_0 11 rfl rfl) ?_
    refine lv_aload_n hx hb (D_42 W_prog_15_method_182_code_0 12 rfl rfl) rfl (lv_at hl 2 rfl) ?_
    obtain ⟨g1, hf⟩ := gif hf
    refine zget (ci := 13) (C := RX13) (T := TX13) (v := .ref (ad 13 l0 (21 + 1))) (k := 21) hx hb hts inW_13 hown hK hZ g1.1 g1.2 rfl (by decide) k_9_160 rfl (D_180 W_prog_15_method_182_code_0 13 rfl rfl rfl) ?_
    refine lv_iload_n hx hb (D_27 W_prog_15_method_182_code_0 16 rfl rfl) rfl (lv_at hl 3 rfl) ?_
    obtain ⟨g2, hf⟩ := gif hf
    refine zald (ci := 13) (k := 21) hx hb hK rfl hZ g1.1 g1.2 rfl (Nat.le_of_ble_eq_true rfl) g2.1 g2.2 (D_46 W_prog_15_method_182_code_0 17 rfl rfl) ?_
    refine zadd hx hb (D_96 W_prog_15_method_182_code_0 18 rfl rfl) ?_
    obtain ⟨g3, hf⟩ := gif hf
    obtain ⟨g4, hf⟩ := gif hf
    refine zge (tgt := 67) hx hb g3 g4 (D_162 W_prog_15_method_182_code_0 19 rfl rfl rfl) (by decide) (fun h5 => ?_) (fun h5 => ?_)
    · replace hf := gpos hf h5
      refine lv_iload_n hx hb (D_28 W_prog_15_method_182_code_64 3 rfl rfl) rfl (lv_at hl 1 rfl) ?_
      cases hf
      exact W.iret hx hb hr (fun t ht hW => ⟨⟨_, (), rfl, rfl, by rw [ht]; exact hZ, va_K.moved hW.alike hK⟩, hS.F ht⟩) hS.2.2 (D_172 W_prog_15_method_182_code_64 4 rfl rfl) hlk
    · replace hf := gneg hf h5
      refine lv_iload_n hx hb (D_28 W_prog_15_method_182_code_0 22 rfl rfl) rfl (lv_at hl 1 rfl) ?_
      obtain ⟨g6, hf⟩ := gif hf
      refine z0lt (tgt := 59) hx hb g6 (D_155 W_prog_15_method_182_code_0 23 rfl rfl rfl) (by decide) (fun h7 => ?_) (fun h7 => ?_)
      · replace hf := gpos hf h7
        exact b_M_lineOf_59 X ih hf hZ hS (lv_sub hl [0, 2, 3] rfl)
      · replace hf := gneg hf h7
        refine lv_aload_n hx hb (D_42 W_prog_15_method_182_code_0 26 rfl rfl) rfl (lv_at hl 2 rfl) ?_
        refine zget (ci := 13) (C := RX13) (T := TX13) (v := .ref (ad 13 l0 (28 + 1))) (k := 28) hx hb hts inW_13 hown hK hZ g1.1 g1.2 rfl (by decide) k_9_174 rfl (D_180 W_prog_15_method_182_code_0 27 rfl rfl rfl) ?_
        refine lv_iload_n hx hb (D_29 W_prog_15_method_182_code_0 30 rfl rfl) rfl (lv_at hl 0 rfl) ?_
        obtain ⟨g8, hf⟩ := gif hf
        refine zald (ci := 13) (k := 28) hx hb hK rfl hZ g1.1 g1.2 rfl (Nat.le_of_ble_eq_true rfl) g8.1 g8.2 (D_46 W_prog_15_method_182_code_0 31 rfl rfl) ?_
        refine lv_aload_n hx hb (D_42 W_prog_15_method_182_code_32 0 rfl rfl) rfl (lv_at hl 2 rfl) ?_
        refine zget (ci := 13) (C := RX13) (T := TX13) (v := .ref (ad 13 l0 (29 + 1))) (k := 29) hx hb hts inW_13 hown hK hZ g1.1 g1.2 rfl (by decide) k_9_176 rfl (D_180 W_prog_15_method_182_code_32 1 rfl rfl rfl) ?_
        refine lv_iload_n hx hb (D_29 W_prog_15_method_182_code_32 4 rfl rfl) rfl (lv_at hl 0 rfl) ?_
        refine zald (ci := 13) (k := 29) hx hb hK rfl hZ g1.1 g1.2 rfl (Nat.le_of_ble_eq_true rfl) g8.1 g8.2 (D_46 W_prog_15_method_182_code_32 5 rfl rfl) ?_
        obtain ⟨r9, F9, B9, hc9, hf⟩ := gbind hf
        refine va_calli (va_runS (As := [.int (iI (B 13 l0 28 l3)), .int (iI (B 13 l0 29 l3))]) (rest := []) ⟨hx, hb, hml, hown, hts⟩ (c_M_tone (l := l) hc9) (va_cwS 2 hts (gdS k_12_158 k_12_159 k_1_9 k_12_160) rfl rfl rfl (by decide +kernel) ⟨Nat.le_of_ble_eq_true rfl, Nat.le_of_ble_eq_true rfl⟩) (zPS X hZ hS [.int (iI (B 13 l0 28 l3)), .int (iI (B 13 l0 29 l3))]) rfl rfl hl.1 rfl (lv_room (Nat.le_of_ble_eq_true rfl)) (D_184 W_prog_15_method_182_code_32 6 rfl rfl rfl) ⟨Nat.le_of_ble_eq_true rfl, Nat.le_of_ble_eq_true rfl⟩) hS (fun q _ h => zAin X hS q h) (zAin X hS) (fun p9 u9 t9 H9 locs9 ht9 hv9 hw9 hB9 hz9 hk9 hS9 => ?_)
        have hZ9 := zBack X ht9 hB9
        subst hw9
        refine lv_aload_n hx hb (D_42 W_prog_15_method_182_code_32 9 rfl rfl) rfl (lv_at hl 2 rfl) ?_
        refine zget (ci := 13) (C := RX13) (T := TX13) (v := .ref (ad 13 l0 (28 + 1))) (k := 28) hx hb hts inW_13 hown hK hZ9 g1.1 g1.2 rfl (by decide) k_9_174 rfl (D_180 W_prog_15_method_182_code_32 10 rfl rfl rfl) ?_
        refine lv_iload_n hx hb (D_28 W_prog_15_method_182_code_32 13 rfl rfl) rfl (lv_at hl 1 rfl) ?_
        obtain ⟨g10, hf⟩ := gif hf
        refine zald (ci := 13) (k := 28) hx hb hK rfl hZ9 g1.1 g1.2 rfl (Nat.le_of_ble_eq_true rfl) g10.1 g10.2 (D_46 W_prog_15_method_182_code_32 14 rfl rfl) ?_
        refine lv_aload_n hx hb (D_42 W_prog_15_method_182_code_32 15 rfl rfl) rfl (lv_at hl 2 rfl) ?_
        refine zget (ci := 13) (C := RX13) (T := TX13) (v := .ref (ad 13 l0 (29 + 1))) (k := 29) hx hb hts inW_13 hown hK hZ9 g1.1 g1.2 rfl (by decide) k_9_176 rfl (D_180 W_prog_15_method_182_code_32 16 rfl rfl rfl) ?_
        refine lv_iload_n hx hb (D_28 W_prog_15_method_182_code_32 19 rfl rfl) rfl (lv_at hl 1 rfl) ?_
        refine zald (ci := 13) (k := 29) hx hb hK rfl hZ9 g1.1 g1.2 rfl (Nat.le_of_ble_eq_true rfl) g10.1 g10.2 (D_46 W_prog_15_method_182_code_32 20 rfl rfl) ?_
        obtain ⟨r11, F11, B11, hc11, hf⟩ := gbind hf
        refine va_calli (va_runS (As := [.int (iI (B9 13 l0 28 l2)), .int (iI (B9 13 l0 29 l2))]) (rest := [.int (iI r9)]) ⟨hx, hb, hml, hown, hts⟩ (c_M_tone (l := l) hc11) (va_cwS 2 hts (gdS k_12_158 k_12_159 k_1_9 k_12_160) rfl rfl rfl (by decide +kernel) ⟨Nat.le_of_ble_eq_true rfl, Nat.le_of_ble_eq_true rfl⟩) (zPS X hZ9 hS9 [.int (iI (B9 13 l0 28 l2)), .int (iI (B9 13 l0 29 l2))]) rfl rfl hl.1 rfl (lv_room (Nat.le_of_ble_eq_true rfl)) (D_184 W_prog_15_method_182_code_32 21 rfl rfl rfl) ⟨Nat.le_of_ble_eq_true rfl, Nat.le_of_ble_eq_true rfl⟩) hS9 (fun q _ h => zAin X hS9 q h) (zAin X hS9) (fun p11 u11 t11 H11 locs11 ht11 hv11 hw11 hB11 hz11 hk11 hS11 => ?_)
        have hZ11 := zBack X ht11 hB11
        subst hw11
        obtain ⟨g12, hf⟩ := gif hf
        obtain ⟨g13, hf⟩ := gif hf
        refine zlt (tgt := 61) hx hb g12 g13 (D_161 W_prog_15_method_182_code_32 24 rfl rfl rfl) (by decide) (fun h14 => ?_) (fun h14 => ?_)
        · replace hf := gpos hf h14
          exact b_M_lineOf_61 X ih hf hZ11 hS11 (lv_sub hl [0, 1, 2, 3] rfl)
        · replace hf := gneg hf h14
          exact b_M_lineOf_59 X ih hf hZ11 hS11 (lv_sub hl [0, 2, 3] rfl)

def f_M_lineOf (K : Nat) (l0 : Int) (l1 : Int) (F : zF) (B : zB) : zO := f_M_lineOf_7 K K (6 * l1) (-1) l0 l1 F B
set_option maxHeartbeats 4000000 in
set_option maxRecDepth 100000 in
theorem c_M_lineOf {l : Launch} {D : va_G} {ca : Nat → ClassId} {ad : Nat → Int → Nat → Nat} {L : List Nat} {aS vS : Nat → Nat} {sz K : Nat}  {l0 : Int} {l1 : Int} {F F9 : zF} {B B9 : zB} {r : Int} (hf : f_M_lineOf K l0 l1 F B = some (r, F9, B9)) : Met l ({ cls := "StaveHouseModel", name := "lineOf", desc := "(LStaveHouseModel$Piece;I)I" } : Jvm.MethodName) (Cond.code ({ cls := "StaveHouseModel", name := "lineOf", desc := "(LStaveHouseModel$Piece;I)I" } : Jvm.MethodName) prog_15_method_182_code 4 (Option.some Jvm.ClassFile.FieldType.int) :: wAll) ({ frames := 1, cells := 0, slots := 0, locals := 23 } : Room) (va_Pc [.ref (ad 13 l0 0), .int (iI l1)] (zPre D ca ad lnM nM L aS vS F B sz)) (Q_M_lineOf D ca ad L r F9 B9 (zA L sz)) 0 0 (zA L sz) := by
  refine zMet (Qc := Q_M_lineOf D ca ad L r F9 B9) (lv := [(0, .ref (ad 13 l0 0)), (1, .int (iI l1))]) (by decide) (Nat.le_of_ble_eq_true rfl) rfl (fun A p e s m below meth c ls X hZ hS hl => ?_)
  obtain ⟨hx, hb, hr, hml, hown, hts, hlk, hK, hA, hL, hX⟩ := id X
  replace hf : (f_M_lineOf_7 K K (6 * l1) (-1) l0 l1 F B) = some (r, F9, B9) := hf
  refine lv_iconst (v := iI (-1)) hx hb (D_2 W_prog_15_method_182_code_0 0 rfl rfl) rfl ?_
  refine lv_istore_n (lv' := [(2, .int (iI (-1))), (0, .ref (ad 13 l0 0)), (1, .int (iI l1))]) hx hb (D_61 W_prog_15_method_182_code_0 1 rfl rfl) rfl hl (by decide) rfl (fun ls hl => ?_)
  refine lv_bipush (v := iI 6) hx hb (D_16 W_prog_15_method_182_code_0 2 rfl rfl rfl) (by decide) ?_
  refine lv_iload_n hx hb (D_27 W_prog_15_method_182_code_0 4 rfl rfl) rfl (lv_at hl 2 rfl) ?_
  refine zmul hx hb (D_104 W_prog_15_method_182_code_0 5 rfl rfl) ?_
  refine lv_istore_n (lv' := [(3, .int (iI (6 * l1))), (2, .int (iI (-1))), (0, .ref (ad 13 l0 0)), (1, .int (iI l1))]) hx hb (D_62 W_prog_15_method_182_code_0 6 rfl rfl) rfl hl (by decide) rfl (fun ls hl => ?_)
  exact b_M_lineOf_7 X hf hZ hS (lv_sub hl [0, 1, 2, 3] rfl)

