theorem k_9_212 : (Jvm.Cond.fieldLink "StaveHouseModel" (859 : Nat) "StaveHouseModel$Piece" "lines" "I") ∈ wAll := wA_9 (j := 212) rfl rfl
theorem k_9_220 : (Jvm.Cond.fieldLink "StaveHouseModel" (873 : Nat) "StaveHouseModel$Piece" "linePrice" "[J") ∈ wAll := wA_9 (j := 220) rfl rfl
theorem k_12_111 : (Jvm.Cond.methodLink "StaveHouseModel" (876 : Nat) ({ cls := "StaveHouseModel", name := "lineColumns", desc := "(LStaveHouseModel$Piece;I)I" } : Jvm.MethodName)) ∈ wAll := wA_12 (j := 111) rfl rfl
theorem k_12_112 : (Jvm.Cond.static ({ cls := "StaveHouseModel", name := "lineColumns", desc := "(LStaveHouseModel$Piece;I)I" } : Jvm.MethodName)) ∈ wAll := wA_12 (j := 112) rfl rfl
theorem k_12_113 : (Jvm.Cond.code ({ cls := "StaveHouseModel", name := "lineColumns", desc := "(LStaveHouseModel$Piece;I)I" } : Jvm.MethodName) prog_15_method_109_code (2 : Nat) (Option.some Jvm.ClassFile.FieldType.int)) ∈ wAll := wA_12 (j := 113) rfl rfl
theorem k_9_218 : (Jvm.Cond.fieldLink "StaveHouseModel" (871 : Nat) "StaveHouseModel$Piece" "lineWide" "[I") ∈ wAll := wA_9 (j := 218) rfl rfl
theorem k_9_211 : (Jvm.Cond.fieldLink "StaveHouseModel" (862 : Nat) "StaveHouseModel$Piece" "width" "I") ∈ wAll := wA_9 (j := 211) rfl rfl
theorem k_9_208 : (Jvm.Cond.fieldLink "StaveHouseModel" (828 : Nat) "StaveHouseModel$Piece" "columnWide" "[I") ∈ wAll := wA_9 (j := 208) rfl rfl
theorem k_12_167 : (Jvm.Cond.methodLink "StaveHouseModel" (20 : Nat) ({ cls := "StaveHouseModel", name := "floor", desc := "(II)I" } : Jvm.MethodName)) ∈ wAll := wA_12 (j := 167) rfl rfl
theorem k_12_168 : (Jvm.Cond.static ({ cls := "StaveHouseModel", name := "floor", desc := "(II)I" } : Jvm.MethodName)) ∈ wAll := wA_12 (j := 168) rfl rfl
theorem k_12_169 : (Jvm.Cond.code ({ cls := "StaveHouseModel", name := "floor", desc := "(II)I" } : Jvm.MethodName) prog_15_method_9_code (3 : Nat) (Option.some Jvm.ClassFile.FieldType.int)) ∈ wAll := wA_12 (j := 169) rfl rfl
theorem k_12_195 : (Jvm.Cond.methodLink "StaveHouseModel" (971 : Nat) ({ cls := "StaveHouseModel", name := "put", desc := "(Ljava/lang/String;)V" } : Jvm.MethodName)) ∈ wAll := wA_12 (j := 195) rfl rfl
theorem k_12_197 : (Jvm.Cond.instanceMethod ({ cls := "StaveHouseModel", name := "put", desc := "(Ljava/lang/String;)V" } : Jvm.MethodName)) ∈ wAll := wA_12 (j := 197) rfl rfl
theorem ks_141 : (Jvm.Cond.selects "StaveHouseModel" ({ cls := "StaveHouseModel", name := "put", desc := "(Ljava/lang/String;)V" } : Jvm.MethodName) ({ cls := "StaveHouseModel", name := "put", desc := "(Ljava/lang/String;)V" } : Jvm.MethodName)) ∈ wAll := wA_s (j := 141) rfl rfl
theorem k_12_198 : (Jvm.Cond.code ({ cls := "StaveHouseModel", name := "put", desc := "(Ljava/lang/String;)V" } : Jvm.MethodName) prog_15_method_124_code (3 : Nat) (Option.none : Option Jvm.ClassFile.FieldType)) ∈ wAll := wA_12 (j := 198) rfl rfl
theorem k_12_203 : (Jvm.Cond.methodLink "StaveHouseModel" (974 : Nat) ({ cls := "StaveHouseModel", name := "four", desc := "(I)V" } : Jvm.MethodName)) ∈ wAll := wA_12 (j := 203) rfl rfl
theorem k_12_205 : (Jvm.Cond.instanceMethod ({ cls := "StaveHouseModel", name := "four", desc := "(I)V" } : Jvm.MethodName)) ∈ wAll := wA_12 (j := 205) rfl rfl
theorem ks_143 : (Jvm.Cond.selects "StaveHouseModel" ({ cls := "StaveHouseModel", name := "four", desc := "(I)V" } : Jvm.MethodName) ({ cls := "StaveHouseModel", name := "four", desc := "(I)V" } : Jvm.MethodName)) ∈ wAll := wA_s (j := 143) rfl rfl
theorem k_12_206 : (Jvm.Cond.code ({ cls := "StaveHouseModel", name := "four", desc := "(I)V" } : Jvm.MethodName) prog_15_method_127_code (3 : Nat) (Option.none : Option Jvm.ClassFile.FieldType)) ∈ wAll := wA_12 (j := 206) rfl rfl
theorem k_12_207 : (Jvm.Cond.methodLink "StaveHouseModel" (977 : Nat) ({ cls := "StaveHouseModel", name := "beginTrack", desc := "()I" } : Jvm.MethodName)) ∈ wAll := wA_12 (j := 207) rfl rfl
theorem k_12_209 : (Jvm.Cond.instanceMethod ({ cls := "StaveHouseModel", name := "beginTrack", desc := "()I" } : Jvm.MethodName)) ∈ wAll := wA_12 (j := 209) rfl rfl
theorem ks_144 : (Jvm.Cond.selects "StaveHouseModel" ({ cls := "StaveHouseModel", name := "beginTrack", desc := "()I" } : Jvm.MethodName) ({ cls := "StaveHouseModel", name := "beginTrack", desc := "()I" } : Jvm.MethodName)) ∈ wAll := wA_s (j := 144) rfl rfl
theorem k_12_210 : (Jvm.Cond.code ({ cls := "StaveHouseModel", name := "beginTrack", desc := "()I" } : Jvm.MethodName) prog_15_method_130_code (1 : Nat) (Option.some Jvm.ClassFile.FieldType.int)) ∈ wAll := wA_12 (j := 210) rfl rfl
theorem k_9_140 : (Jvm.Cond.fieldLink "StaveHouseModel" (448 : Nat) "StaveHouseModel$Piece" "letters" "[I") ∈ wAll := wA_9 (j := 140) rfl rfl
theorem k_12_221 : (Jvm.Cond.methodLink "StaveHouseModel" (989 : Nat) ({ cls := "StaveHouseModel", name := "word", desc := "(J)V" } : Jvm.MethodName)) ∈ wAll := wA_12 (j := 221) rfl rfl
theorem k_12_223 : (Jvm.Cond.instanceMethod ({ cls := "StaveHouseModel", name := "word", desc := "(J)V" } : Jvm.MethodName)) ∈ wAll := wA_12 (j := 223) rfl rfl
theorem ks_147 : (Jvm.Cond.selects "StaveHouseModel" ({ cls := "StaveHouseModel", name := "word", desc := "(J)V" } : Jvm.MethodName) ({ cls := "StaveHouseModel", name := "word", desc := "(J)V" } : Jvm.MethodName)) ∈ wAll := wA_s (j := 147) rfl rfl
theorem k_12_224 : (Jvm.Cond.code ({ cls := "StaveHouseModel", name := "word", desc := "(J)V" } : Jvm.MethodName) prog_15_method_126_code (4 : Nat) (Option.none : Option Jvm.ClassFile.FieldType)) ∈ wAll := wA_12 (j := 224) rfl rfl
theorem k_12_213 : (Jvm.Cond.methodLink "StaveHouseModel" (981 : Nat) ({ cls := "StaveHouseModel", name := "endTrack", desc := "(I)V" } : Jvm.MethodName)) ∈ wAll := wA_12 (j := 213) rfl rfl
theorem k_12_215 : (Jvm.Cond.instanceMethod ({ cls := "StaveHouseModel", name := "endTrack", desc := "(I)V" } : Jvm.MethodName)) ∈ wAll := wA_12 (j := 215) rfl rfl
theorem ks_145 : (Jvm.Cond.selects "StaveHouseModel" ({ cls := "StaveHouseModel", name := "endTrack", desc := "(I)V" } : Jvm.MethodName) ({ cls := "StaveHouseModel", name := "endTrack", desc := "(I)V" } : Jvm.MethodName)) ∈ wAll := wA_s (j := 145) rfl rfl
theorem k_12_216 : (Jvm.Cond.code ({ cls := "StaveHouseModel", name := "endTrack", desc := "(I)V" } : Jvm.MethodName) prog_15_method_131_code (4 : Nat) (Option.none : Option Jvm.ClassFile.FieldType)) ∈ wAll := wA_12 (j := 216) rfl rfl
theorem k_12_226 : (Jvm.Cond.methodLink "StaveHouseModel" (992 : Nat) ({ cls := "StaveHouseModel", name := "delta", desc := "(I)V" } : Jvm.MethodName)) ∈ wAll := wA_12 (j := 226) rfl rfl
theorem k_12_228 : (Jvm.Cond.instanceMethod ({ cls := "StaveHouseModel", name := "delta", desc := "(I)V" } : Jvm.MethodName)) ∈ wAll := wA_12 (j := 228) rfl rfl
theorem ks_148 : (Jvm.Cond.selects "StaveHouseModel" ({ cls := "StaveHouseModel", name := "delta", desc := "(I)V" } : Jvm.MethodName) ({ cls := "StaveHouseModel", name := "delta", desc := "(I)V" } : Jvm.MethodName)) ∈ wAll := wA_s (j := 148) rfl rfl
theorem k_12_229 : (Jvm.Cond.code ({ cls := "StaveHouseModel", name := "delta", desc := "(I)V" } : Jvm.MethodName) prog_15_method_128_code (3 : Nat) (Option.none : Option Jvm.ClassFile.FieldType)) ∈ wAll := wA_12 (j := 229) rfl rfl
theorem k_11_87 : (Jvm.Cond.fieldLink "StaveHouseModel" (995 : Nat) "StaveHouseModel" "p" "I") ∈ wAll := wA_11 (j := 87) rfl rfl
theorem k_11_88 : (Jvm.Cond.fieldLink "StaveHouseModel" (997 : Nat) "StaveHouseModel" "limit" "J") ∈ wAll := wA_11 (j := 88) rfl rfl
theorem k_13_23 : (Jvm.Cond.methodLink "StaveHouseModel" (336 : Nat) ({ cls := "StaveHouseModel", name := "byteAt", desc := "(I)I" } : Jvm.MethodName)) ∈ wAll := wA_13 (j := 23) rfl rfl
theorem k_13_25 : (Jvm.Cond.instanceMethod ({ cls := "StaveHouseModel", name := "byteAt", desc := "(I)I" } : Jvm.MethodName)) ∈ wAll := wA_13 (j := 25) rfl rfl
theorem ks_154 : (Jvm.Cond.selects "StaveHouseModel" ({ cls := "StaveHouseModel", name := "byteAt", desc := "(I)I" } : Jvm.MethodName) ({ cls := "StaveHouseModel", name := "byteAt", desc := "(I)I" } : Jvm.MethodName)) ∈ wAll := wA_s (j := 154) rfl rfl
theorem k_13_26 : (Jvm.Cond.code ({ cls := "StaveHouseModel", name := "byteAt", desc := "(I)I" } : Jvm.MethodName) prog_15_method_14_code (2 : Nat) (Option.some Jvm.ClassFile.FieldType.int)) ∈ wAll := wA_13 (j := 26) rfl rfl
theorem k_13_11 : (Jvm.Cond.methodLink "StaveHouseModel" (1003 : Nat) ({ cls := "StaveHouseModel", name := "next", desc := "()I" } : Jvm.MethodName)) ∈ wAll := wA_13 (j := 11) rfl rfl
theorem k_13_13 : (Jvm.Cond.instanceMethod ({ cls := "StaveHouseModel", name := "next", desc := "()I" } : Jvm.MethodName)) ∈ wAll := wA_13 (j := 13) rfl rfl
theorem ks_151 : (Jvm.Cond.selects "StaveHouseModel" ({ cls := "StaveHouseModel", name := "next", desc := "()I" } : Jvm.MethodName) ({ cls := "StaveHouseModel", name := "next", desc := "()I" } : Jvm.MethodName)) ∈ wAll := wA_s (j := 151) rfl rfl
theorem k_13_14 : (Jvm.Cond.code ({ cls := "StaveHouseModel", name := "next", desc := "()I" } : Jvm.MethodName) prog_15_method_136_code (1 : Nat) (Option.some Jvm.ClassFile.FieldType.int)) ∈ wAll := wA_13 (j := 14) rfl rfl
theorem k_13_27 : (Jvm.Cond.methodLink "StaveHouseModel" (1006 : Nat) ({ cls := "StaveHouseModel", name := "whole", desc := "(I)J" } : Jvm.MethodName)) ∈ wAll := wA_13 (j := 27) rfl rfl
theorem k_13_29 : (Jvm.Cond.instanceMethod ({ cls := "StaveHouseModel", name := "whole", desc := "(I)J" } : Jvm.MethodName)) ∈ wAll := wA_13 (j := 29) rfl rfl
theorem ks_155 : (Jvm.Cond.selects "StaveHouseModel" ({ cls := "StaveHouseModel", name := "whole", desc := "(I)J" } : Jvm.MethodName) ({ cls := "StaveHouseModel", name := "whole", desc := "(I)J" } : Jvm.MethodName)) ∈ wAll := wA_s (j := 155) rfl rfl
theorem k_13_30 : (Jvm.Cond.code ({ cls := "StaveHouseModel", name := "whole", desc := "(I)J" } : Jvm.MethodName) prog_15_method_138_code (5 : Nat) (Option.some Jvm.ClassFile.FieldType.long)) ∈ wAll := wA_13 (j := 30) rfl rfl
theorem k_10_191 : (Jvm.Cond.methodLink "StaveHouseModel" (67 : Nat) ({ cls := "StaveHouseModel", name := "code", desc := "(Ljava/lang/String;)J" } : Jvm.MethodName)) ∈ wAll := wA_10 (j := 191) rfl rfl
theorem k_10_192 : (Jvm.Cond.static ({ cls := "StaveHouseModel", name := "code", desc := "(Ljava/lang/String;)J" } : Jvm.MethodName)) ∈ wAll := wA_10 (j := 192) rfl rfl
theorem k_10_193 : (Jvm.Cond.code ({ cls := "StaveHouseModel", name := "code", desc := "(Ljava/lang/String;)J" } : Jvm.MethodName) prog_15_method_24_code (4 : Nat) (Option.some Jvm.ClassFile.FieldType.long)) ∈ wAll := wA_10 (j := 193) rfl rfl
theorem k_12_164 : (Jvm.Cond.methodLink "StaveHouseModel" (307 : Nat) ({ cls := "StaveHouseModel", name := "mod", desc := "(II)I" } : Jvm.MethodName)) ∈ wAll := wA_12 (j := 164) rfl rfl
theorem k_12_165 : (Jvm.Cond.static ({ cls := "StaveHouseModel", name := "mod", desc := "(II)I" } : Jvm.MethodName)) ∈ wAll := wA_12 (j := 165) rfl rfl
theorem k_12_166 : (Jvm.Cond.code ({ cls := "StaveHouseModel", name := "mod", desc := "(II)I" } : Jvm.MethodName) prog_15_method_10_code (2 : Nat) (Option.some Jvm.ClassFile.FieldType.int)) ∈ wAll := wA_12 (j := 166) rfl rfl
theorem k_13_112 : (Jvm.Cond.methodLink "StaveHouseModel" (1093 : Nat) ({ cls := "StaveHouseModel", name := "digits", desc := "(I)V" } : Jvm.MethodName)) ∈ wAll := wA_13 (j := 112) rfl rfl
theorem k_13_114 : (Jvm.Cond.instanceMethod ({ cls := "StaveHouseModel", name := "digits", desc := "(I)V" } : Jvm.MethodName)) ∈ wAll := wA_13 (j := 114) rfl rfl
theorem ks_171 : (Jvm.Cond.selects "StaveHouseModel" ({ cls := "StaveHouseModel", name := "digits", desc := "(I)V" } : Jvm.MethodName) ({ cls := "StaveHouseModel", name := "digits", desc := "(I)V" } : Jvm.MethodName)) ∈ wAll := wA_s (j := 171) rfl rfl
theorem k_13_115 : (Jvm.Cond.code ({ cls := "StaveHouseModel", name := "digits", desc := "(I)V" } : Jvm.MethodName) prog_15_method_125_code (3 : Nat) (Option.none : Option Jvm.ClassFile.FieldType)) ∈ wAll := wA_13 (j := 115) rfl rfl
theorem k_9_128 : (Jvm.Cond.fieldLink "StaveHouseModel" (313 : Nat) "StaveHouseModel$Piece" "minor" "Z") ∈ wAll := wA_9 (j := 128) rfl rfl
theorem k_12_147 : (Jvm.Cond.methodLink "StaveHouseModel" (533 : Nat) ({ cls := "StaveHouseModel", name := "plus", desc := "(JJJJ)V" } : Jvm.MethodName)) ∈ wAll := wA_12 (j := 147) rfl rfl
theorem k_12_149 : (Jvm.Cond.instanceMethod ({ cls := "StaveHouseModel", name := "plus", desc := "(JJJJ)V" } : Jvm.MethodName)) ∈ wAll := wA_12 (j := 149) rfl rfl
theorem ks_135 : (Jvm.Cond.selects "StaveHouseModel" ({ cls := "StaveHouseModel", name := "plus", desc := "(JJJJ)V" } : Jvm.MethodName) ({ cls := "StaveHouseModel", name := "plus", desc := "(JJJJ)V" } : Jvm.MethodName)) ∈ wAll := wA_s (j := 135) rfl rfl
theorem k_12_150 : (Jvm.Cond.code ({ cls := "StaveHouseModel", name := "plus", desc := "(JJJJ)V" } : Jvm.MethodName) prog_15_method_3_code (11 : Nat) (Option.none : Option Jvm.ClassFile.FieldType)) ∈ wAll := wA_12 (j := 150) rfl rfl
theorem k_13_182 : (Jvm.Cond.methodLink "StaveHouseModel" (667 : Nat) ({ cls := "StaveHouseModel", name := "isCompound", desc := "(LStaveHouseModel$Piece;)Z" } : Jvm.MethodName)) ∈ wAll := wA_13 (j := 182) rfl rfl
theorem k_13_183 : (Jvm.Cond.static ({ cls := "StaveHouseModel", name := "isCompound", desc := "(LStaveHouseModel$Piece;)Z" } : Jvm.MethodName)) ∈ wAll := wA_13 (j := 183) rfl rfl
theorem k_13_184 : (Jvm.Cond.code ({ cls := "StaveHouseModel", name := "isCompound", desc := "(LStaveHouseModel$Piece;)Z" } : Jvm.MethodName) prog_15_method_77_code (1 : Nat) (Option.some Jvm.ClassFile.FieldType.boolean)) ∈ wAll := wA_13 (j := 184) rfl rfl
theorem k_13_179 : (Jvm.Cond.methodLink "StaveHouseModel" (673 : Nat) ({ cls := "StaveHouseModel", name := "beat", desc := "(LStaveHouseModel$Piece;)I" } : Jvm.MethodName)) ∈ wAll := wA_13 (j := 179) rfl rfl
theorem k_13_180 : (Jvm.Cond.static ({ cls := "StaveHouseModel", name := "beat", desc := "(LStaveHouseModel$Piece;)I" } : Jvm.MethodName)) ∈ wAll := wA_13 (j := 180) rfl rfl
theorem k_13_181 : (Jvm.Cond.code ({ cls := "StaveHouseModel", name := "beat", desc := "(LStaveHouseModel$Piece;)I" } : Jvm.MethodName) prog_15_method_78_code (1 : Nat) (Option.some Jvm.ClassFile.FieldType.int)) ∈ wAll := wA_13 (j := 181) rfl rfl
theorem k_13_192 : (Jvm.Cond.methodLink "StaveHouseModel" (677 : Nat) ({ cls := "StaveHouseModel", name := "isBetween", desc := "(JJJJJJ)Z" } : Jvm.MethodName)) ∈ wAll := wA_13 (j := 192) rfl rfl
theorem k_13_193 : (Jvm.Cond.static ({ cls := "StaveHouseModel", name := "isBetween", desc := "(JJJJJJ)Z" } : Jvm.MethodName)) ∈ wAll := wA_13 (j := 193) rfl rfl
theorem k_13_194 : (Jvm.Cond.code ({ cls := "StaveHouseModel", name := "isBetween", desc := "(JJJJJJ)Z" } : Jvm.MethodName) prog_15_method_80_code (14 : Nat) (Option.some Jvm.ClassFile.FieldType.boolean)) ∈ wAll := wA_13 (j := 194) rfl rfl
theorem W_prog_15_method_110_code_0 : chW prog_15_method_110_code 0 [42, 27, 182, 3, 83, 58, 4, 25, 4, 198, 0, 16, 28, 155, 0, 12, 28, 25, 4, 180, 3, 91, 161, 0, 7, 20, 3, 79, 173, 29, 154, 0, 12, 25, 4, 180] := chW_of (by decide +kernel)
theorem W_prog_15_method_110_code_32 : chW prog_15_method_110_code 32 [12, 25, 4, 180, 3, 97, 28, 46, 133, 173, 29, 4, 160, 0, 12, 25, 4, 180, 3, 100, 28, 46, 133, 173, 29, 5, 160, 0, 12, 25, 4, 180, 3, 103, 28, 46] := chW_of (by decide +kernel)
theorem W_prog_15_method_110_code_64 : chW prog_15_method_110_code 64 [3, 103, 28, 46, 133, 173, 29, 6, 160, 0, 11, 25, 4, 28, 184, 3, 108, 133, 173, 29, 7, 160, 0, 13, 25, 4, 180, 3, 105, 28, 47, 167, 0, 6, 20, 3] := chW_of (by decide +kernel)
theorem W_prog_15_method_110_code_96 : chW prog_15_method_110_code 96 [0, 6, 20, 3, 79, 173] := chW_of (by decide +kernel)
theorem W_prog_15_method_111_code_0 : chW prog_15_method_111_code 0 [42, 27, 182, 3, 83, 58, 4, 25, 4, 28, 184, 3, 111, 153, 0, 26, 29, 155, 0, 22, 29, 25, 4, 180, 2, 211, 28, 46, 162, 0, 11, 25, 4, 180, 3, 91] := chW_of (by decide +kernel)
theorem W_prog_15_method_111_code_32 : chW prog_15_method_111_code 32 [4, 180, 3, 91, 154, 0, 5, 2, 172, 17, 3, 32, 28, 104, 29, 96, 54, 5, 25, 4, 180, 2, 237, 21, 5, 46, 54, 6, 3, 54, 7, 25, 4, 180, 3, 97] := chW_of (by decide +kernel)
theorem W_prog_15_method_111_code_64 : chW prog_15_method_111_code 64 [4, 180, 3, 97, 21, 7, 46, 25, 4, 180, 3, 100, 21, 7, 46, 96, 21, 6, 163, 0, 9, 132, 7, 1, 167, 255, 231, 25, 4, 180, 3, 50, 25, 4, 180, 3] := chW_of (by decide +kernel)
theorem W_prog_15_method_111_code_96 : chW prog_15_method_111_code 96 [25, 4, 180, 3, 97, 21, 7, 46, 46, 54, 8, 25, 4, 180, 3, 50, 21, 6, 46, 54, 9, 25, 4, 180, 3, 66, 21, 9, 47, 25, 4, 180, 2, 240, 21, 5] := chW_of (by decide +kernel)
theorem d_15_111_85 : decode prog_15_method_111_code 85 = .ok (.iinc 7 1, 3) := D_132 W_prog_15_method_111_code_64 21 rfl rfl rfl
theorem W_prog_15_method_111_code_128 : chW prog_15_method_111_code 128 [2, 240, 21, 5, 47, 148, 154, 0, 23, 25, 4, 180, 3, 69, 21, 9, 47, 25, 4, 180, 2, 243, 21, 5, 47, 148, 153, 0, 9, 132, 9, 1, 167, 255, 213, 25] := chW_of (by decide +kernel)
theorem W_prog_15_method_111_code_160 : chW prog_15_method_111_code 160 [167, 255, 213, 25, 4, 25, 4, 180, 3, 97, 21, 7, 46, 184, 3, 72, 16, 6, 21, 6, 25, 4, 180, 3, 97, 21, 7, 46, 100, 4, 96, 104, 96, 54, 10, 21] := chW_of (by decide +kernel)
theorem W_prog_15_method_111_code_192 : chW prog_15_method_111_code 192 [96, 54, 10, 21, 8, 54, 11, 21, 11, 21, 9, 162, 0, 22, 21, 10, 25, 4, 180, 3, 60, 21, 11, 46, 96, 54, 10, 132, 11, 1, 167, 255, 233, 25, 4, 180] := chW_of (by decide +kernel)
theorem d_15_111_157 : decode prog_15_method_111_code 157 = .ok (.iinc 9 1, 3) := D_132 W_prog_15_method_111_code_128 29 rfl rfl rfl
theorem W_prog_15_method_111_code_224 : chW prog_15_method_111_code 224 [233, 25, 4, 180, 3, 103, 21, 7, 46, 25, 4, 180, 3, 94, 162, 0, 19, 21, 7, 4, 96, 25, 4, 180, 3, 91, 162, 0, 7, 4, 167, 0, 4, 3, 54, 11] := chW_of (by decide +kernel)
theorem d_15_111_219 : decode prog_15_method_111_code 219 = .ok (.iinc 11 1, 3) := D_132 W_prog_15_method_111_code_192 27 rfl rfl rfl
theorem W_prog_15_method_111_code_256 : chW prog_15_method_111_code 256 [4, 3, 54, 11, 21, 11, 153, 0, 37, 21, 10, 25, 4, 180, 3, 94, 25, 4, 180, 3, 103, 21, 7, 46, 100, 21, 9, 21, 8, 100, 104, 25, 4, 21, 7, 184] := chW_of (by decide +kernel)
theorem W_prog_15_method_111_code_288 : chW prog_15_method_111_code 288 [4, 21, 7, 184, 3, 108, 108, 96, 167, 0, 5, 21, 10, 172] := chW_of (by decide +kernel)
theorem W_prog_15_method_115_code_0 : chW prog_15_method_115_code 0 [42, 180, 2, 72, 27, 46, 4, 126, 158, 0, 29, 42, 27, 28, 29, 184, 2, 122, 155, 0, 19, 42, 27, 4, 96, 28, 29, 184, 2, 122, 155, 0, 7, 4, 167, 0] := chW_of (by decide +kernel)
theorem W_prog_15_method_115_code_32 : chW prog_15_method_115_code 32 [7, 4, 167, 0, 4, 3, 172] := chW_of (by decide +kernel)
theorem W_prog_15_method_3_code_0 : chW prog_15_method_3_code 0 [33, 22, 7, 184, 0, 3, 55, 9, 42, 31, 22, 7, 22, 9, 109, 105, 22, 5, 33, 22, 9, 109, 105, 97, 33, 22, 9, 109, 22, 7, 105, 182, 0, 16, 177] := chW_of (by decide +kernel)
theorem W_prog_15_method_3_code_32 : chW prog_15_method_3_code 32 [0, 16, 177] := chW_of (by decide +kernel)
theorem W_prog_15_method_10_code_0 : chW prog_15_method_10_code 0 [26, 27, 26, 27, 184, 0, 20, 104, 100, 172] := chW_of (by decide +kernel)
theorem W_prog_15_method_124_code_0 : chW prog_15_method_124_code 0 [3, 61, 28, 43, 182, 1, 67, 162, 0, 18, 42, 43, 28, 182, 1, 73, 182, 3, 196, 132, 2, 1, 167, 255, 236, 177] := chW_of (by decide +kernel)
theorem d_15_124_19 : decode prog_15_method_124_code 19 = .ok (.iinc 2 1, 3) := D_132 W_prog_15_method_124_code_0 19 rfl rfl rfl
theorem W_prog_15_method_130_code_0 : chW prog_15_method_130_code 0 [42, 19, 3, 219, 182, 3, 203, 42, 3, 182, 3, 206, 42, 180, 3, 193, 172] := chW_of (by decide +kernel)
theorem W_prog_15_method_132_code_0 : chW prog_15_method_132_code 0 [42, 182, 3, 209, 62, 42, 3, 182, 3, 196, 42, 17, 0, 255, 182, 3, 196, 42, 6, 182, 3, 196, 42, 43, 180, 1, 192, 28, 46, 182, 3, 196, 42, 43, 180, 1] := chW_of (by decide +kernel)
theorem W_prog_15_method_132_code_32 : chW prog_15_method_132_code 32 [42, 43, 180, 1, 189, 28, 47, 182, 3, 221, 42, 3, 182, 3, 196, 42, 17, 0, 192, 28, 96, 182, 3, 196, 42, 43, 180, 1, 198, 28, 46, 182, 3, 196, 2, 54] := chW_of (by decide +kernel)
theorem W_prog_15_method_132_code_64 : chW prog_15_method_132_code 64 [3, 196, 2, 54, 4, 3, 54, 5, 21, 5, 43, 180, 3, 161, 162, 0, 91, 43, 180, 3, 171, 21, 5, 46, 28, 159, 0, 6, 167, 0, 71, 42, 43, 180, 3, 168] := chW_of (by decide +kernel)
theorem W_prog_15_method_132_code_160 : chW prog_15_method_132_code 160 [46, 54, 4, 132, 5, 1, 167, 255, 162, 42, 29, 182, 3, 213, 177] := chW_of (by decide +kernel)
theorem W_prog_15_method_132_code_96 : chW prog_15_method_132_code 96 [43, 180, 3, 168, 21, 5, 46, 21, 4, 156, 0, 7, 3, 167, 0, 5, 21, 4, 100, 182, 3, 224, 21, 4, 156, 0, 12, 42, 17, 0, 144, 28, 96, 182, 3, 196] := chW_of (by decide +kernel)
theorem d_15_132_163 : decode prog_15_method_132_code 163 = .ok (.iinc 5 1, 3) := D_132 W_prog_15_method_132_code_160 3 rfl rfl rfl
theorem W_prog_15_method_132_code_128 : chW prog_15_method_132_code 128 [96, 182, 3, 196, 42, 43, 180, 3, 174, 21, 5, 46, 182, 3, 196, 42, 43, 180, 3, 177, 21, 5, 46, 182, 3, 196, 43, 180, 3, 168, 21, 5, 46, 54, 4, 132] := chW_of (by decide +kernel)
theorem W_prog_15_method_136_code_0 : chW prog_15_method_136_code 0 [42, 182, 1, 120, 154, 0, 5, 3, 172, 42, 180, 3, 227, 133, 42, 180, 3, 229, 148, 156, 0, 14, 42, 180, 3, 227, 42, 180, 1, 40, 161, 0, 36, 42, 5, 42] := chW_of (by decide +kernel)
theorem W_prog_15_method_136_code_64 : chW prog_15_method_136_code 64 [3, 172, 42, 89, 180, 3, 227, 4, 96, 181, 3, 227, 42, 42, 180, 3, 227, 4, 100, 182, 1, 80, 172] := chW_of (by decide +kernel)
theorem W_prog_15_method_136_code_32 : chW prog_15_method_136_code 32 [36, 42, 5, 42, 180, 3, 229, 42, 180, 1, 40, 133, 148, 156, 0, 10, 42, 180, 3, 229, 167, 0, 8, 42, 180, 1, 40, 133, 136, 182, 3, 232, 3, 172, 42, 89] := chW_of (by decide +kernel)
theorem W_prog_15_method_138_code_0 : chW prog_15_method_138_code 0 [9, 65, 3, 54, 4, 21, 4, 27, 162, 0, 20, 32, 16, 8, 121, 42, 182, 3, 235, 133, 129, 65, 132, 4, 1, 167, 255, 236, 32, 173] := chW_of (by decide +kernel)
theorem d_15_138_22 : decode prog_15_method_138_code 22 = .ok (.iinc 4 1, 3) := D_132 W_prog_15_method_138_code_0 22 rfl rfl rfl
theorem W_prog_15_method_139_code_0 : chW prog_15_method_139_code 0 [42, 180, 3, 227, 54, 4, 42, 27, 182, 3, 238, 55, 5, 42, 182, 1, 120, 153, 0, 26, 22, 5, 28, 133, 148, 155, 0, 11, 22, 5, 29, 133, 148, 158, 0, 10] := chW_of (by decide +kernel)
theorem W_prog_15_method_139_code_32 : chW prog_15_method_139_code 32 [148, 158, 0, 10, 42, 6, 21, 4, 182, 3, 232, 22, 5, 136, 172] := chW_of (by decide +kernel)
theorem W_prog_15_method_142_code_0 : chW prog_15_method_142_code 0 [42, 7, 182, 3, 238, 64, 31, 19, 3, 219, 184, 0, 67, 148, 154, 0, 7, 4, 167, 0, 4, 3, 172] := chW_of (by decide +kernel)
theorem W_prog_15_method_144_code_0 : chW prog_15_method_144_code 0 [3, 60, 17, 0, 128, 61, 3, 62, 29, 7, 162, 0, 38, 42, 182, 1, 120, 153, 0, 31, 28, 17, 0, 128, 161, 0, 24, 42, 182, 3, 235, 61, 27, 16, 7, 120] := chW_of (by decide +kernel)
theorem W_prog_15_method_144_code_32 : chW prog_15_method_144_code 32 [27, 16, 7, 120, 28, 16, 127, 126, 128, 60, 132, 3, 1, 167, 255, 219, 42, 182, 1, 120, 153, 0, 21, 28, 17, 0, 128, 161, 0, 14, 42, 4, 42, 180, 3, 227] := chW_of (by decide +kernel)
theorem d_15_144_42 : decode prog_15_method_144_code 42 = .ok (.iinc 3 1, 3) := D_132 W_prog_15_method_144_code_32 10 rfl rfl rfl
theorem W_prog_15_method_144_code_64 : chW prog_15_method_144_code 64 [42, 180, 3, 227, 4, 100, 182, 3, 232, 27, 172] := chW_of (by decide +kernel)
theorem W_prog_15_method_146_code_0 : chW prog_15_method_146_code 0 [42, 182, 3, 235, 60, 42, 182, 1, 120, 153, 0, 21, 27, 17, 0, 128, 161, 0, 14, 42, 4, 42, 180, 3, 227, 4, 100, 182, 3, 232, 27, 172] := chW_of (by decide +kernel)
theorem W_prog_15_method_157_code_0 : chW prog_15_method_157_code 0 [42, 180, 0, 44, 180, 1, 54, 8, 100, 62, 16, 7, 29, 104, 28, 100, 16, 12, 184, 1, 51, 153, 0, 9, 132, 3, 1, 167, 255, 239, 7, 29, 104, 16, 7, 184] := chW_of (by decide +kernel)
theorem W_prog_15_method_157_code_32 : chW prog_15_method_157_code 32 [104, 16, 7, 184, 1, 51, 54, 4, 29, 4, 96, 16, 7, 184, 0, 20, 54, 5, 3, 54, 6, 21, 6, 16, 9, 162, 0, 197, 16, 7, 21, 6, 104, 21, 4, 96] := chW_of (by decide +kernel)
theorem d_15_157_24 : decode prog_15_method_157_code 24 = .ok (.iinc 3 1, 3) := D_132 W_prog_15_method_157_code_0 24 rfl rfl rfl
theorem W_prog_15_method_157_code_224 : chW prog_15_method_157_code 224 [180, 0, 44, 180, 2, 106, 21, 8, 21, 5, 79, 42, 180, 0, 44, 180, 2, 86, 27, 92, 46, 4, 96, 79, 132, 6, 1, 167, 255, 58, 177] := chW_of (by decide +kernel)
theorem W_prog_15_method_157_code_64 : chW prog_15_method_157_code 64 [104, 21, 4, 96, 54, 7, 21, 7, 21, 5, 184, 2, 63, 28, 159, 0, 6, 167, 0, 167, 16, 6, 27, 104, 42, 180, 0, 44, 180, 2, 86, 27, 46, 96, 54, 8] := chW_of (by decide +kernel)
theorem W_prog_15_method_157_code_96 : chW prog_15_method_157_code 96 [46, 96, 54, 8, 16, 6, 27, 104, 54, 9, 21, 9, 21, 8, 162, 0, 25, 42, 180, 0, 44, 180, 2, 103, 21, 9, 46, 21, 7, 160, 0, 4, 177, 132, 9, 1] := chW_of (by decide +kernel)
theorem d_15_157_248 : decode prog_15_method_157_code 248 = .ok (.iinc 6 1, 3) := D_132 W_prog_15_method_157_code_224 24 rfl rfl rfl
theorem W_prog_15_method_157_code_128 : chW prog_15_method_157_code 128 [177, 132, 9, 1, 167, 255, 230, 21, 8, 16, 6, 27, 104, 164, 0, 70, 42, 180, 0, 44, 180, 2, 103, 21, 8, 4, 100, 46, 21, 7, 164, 0, 53, 42, 180, 0] := chW_of (by decide +kernel)
theorem d_15_157_129 : decode prog_15_method_157_code 129 = .ok (.iinc 9 1, 3) := D_132 W_prog_15_method_157_code_128 1 rfl rfl rfl
theorem W_prog_15_method_157_code_160 : chW prog_15_method_157_code 160 [53, 42, 180, 0, 44, 180, 2, 103, 21, 8, 42, 180, 0, 44, 180, 2, 103, 21, 8, 4, 100, 46, 79, 42, 180, 0, 44, 180, 2, 106, 21, 8, 42, 180, 0, 44] := chW_of (by decide +kernel)
theorem W_prog_15_method_157_code_192 : chW prog_15_method_157_code 192 [42, 180, 0, 44, 180, 2, 106, 21, 8, 4, 100, 46, 79, 132, 8, 255, 167, 255, 183, 42, 180, 0, 44, 180, 2, 103, 21, 8, 21, 7, 79, 42, 180, 0, 44, 180] := chW_of (by decide +kernel)
theorem d_15_157_205 : decode prog_15_method_157_code 205 = .ok (.iinc 8 (-1), 3) := D_132 W_prog_15_method_157_code_192 13 rfl rfl rfl
theorem W_prog_15_method_158_code_0 : chW prog_15_method_158_code 0 [42, 19, 4, 67, 182, 3, 203, 42, 180, 0, 44, 180, 1, 54, 156, 0, 9, 42, 16, 45, 182, 3, 196, 42, 42, 180, 0, 44, 180, 1, 54, 156, 0, 14, 42, 180] := chW_of (by decide +kernel)
theorem W_prog_15_method_158_code_32 : chW prog_15_method_158_code 32 [0, 14, 42, 180, 0, 44, 180, 1, 54, 116, 167, 0, 10, 42, 180, 0, 44, 180, 1, 54, 182, 4, 69, 42, 42, 180, 0, 44, 180, 1, 57, 153, 0, 9, 19, 4] := chW_of (by decide +kernel)
theorem W_prog_15_method_158_code_64 : chW prog_15_method_158_code 64 [0, 9, 19, 4, 72, 167, 0, 6, 19, 4, 74, 182, 3, 203, 42, 16, 10, 182, 3, 196, 42, 19, 4, 76, 182, 3, 203, 42, 42, 180, 0, 44, 180, 1, 148, 182] := chW_of (by decide +kernel)
theorem W_prog_15_method_158_code_96 : chW prog_15_method_158_code 96 [180, 1, 148, 182, 4, 69, 42, 16, 47, 182, 3, 196, 42, 42, 180, 0, 44, 180, 1, 151, 182, 4, 69, 42, 16, 10, 182, 3, 196, 42, 19, 4, 78, 182, 3, 203] := chW_of (by decide +kernel)
theorem W_prog_15_method_158_code_128 : chW prog_15_method_158_code 128 [78, 182, 3, 203, 42, 42, 180, 0, 230, 16, 6, 46, 182, 4, 69, 42, 16, 10, 182, 3, 196, 177] := chW_of (by decide +kernel)
theorem W_prog_15_method_76_code_0 : chW prog_15_method_76_code 0 [42, 9, 10, 182, 0, 16, 3, 62, 29, 43, 180, 2, 3, 28, 46, 162, 0, 66, 17, 3, 232, 28, 104, 29, 96, 54, 4, 43, 180, 2, 9, 21, 4, 42, 180, 0] := chW_of (by decide +kernel)
theorem W_prog_15_method_76_code_64 : chW prog_15_method_76_code 64 [47, 43, 180, 2, 18, 21, 4, 47, 182, 2, 21, 132, 3, 1, 167, 255, 186, 177] := chW_of (by decide +kernel)
theorem W_prog_15_method_76_code_32 : chW prog_15_method_76_code 32 [4, 42, 180, 0, 9, 80, 43, 180, 2, 12, 21, 4, 42, 180, 0, 13, 80, 42, 42, 180, 0, 9, 42, 180, 0, 13, 43, 180, 2, 15, 21, 4, 47, 43, 180, 2] := chW_of (by decide +kernel)
theorem d_15_76_75 : decode prog_15_method_76_code 75 = .ok (.iinc 3 1, 3) := D_132 W_prog_15_method_76_code_64 11 rfl rfl rfl
theorem W_prog_15_method_78_code_0 : chW prog_15_method_78_code 0 [42, 184, 2, 155, 153, 0, 7, 6, 167, 0, 24, 42, 180, 1, 151, 5, 159, 0, 11, 42, 180, 1, 151, 7, 160, 0, 7, 4, 167, 0, 4, 5, 172] := chW_of (by decide +kernel)
theorem W_prog_15_method_78_code_32 : chW prog_15_method_78_code 32 [172] := chW_of (by decide +kernel)
theorem W_prog_15_method_81_code_0 : chW prog_15_method_81_code 0 [43, 180, 1, 148, 5, 112, 154, 0, 53, 32, 22, 4, 43, 180, 1, 148, 133, 20, 2, 159, 43, 180, 1, 151, 133, 105, 184, 2, 25, 156, 0, 30, 43, 180, 1, 148] := chW_of (by decide +kernel)
theorem W_prog_15_method_81_code_32 : chW prog_15_method_81_code 32 [43, 180, 1, 148, 133, 20, 2, 159, 43, 180, 1, 151, 133, 105, 22, 6, 22, 8, 184, 2, 25, 156, 0, 6, 16, 8, 172, 32, 22, 4, 22, 6, 22, 8, 43, 184] := chW_of (by decide +kernel)
theorem W_prog_15_method_81_code_64 : chW prog_15_method_81_code 64 [22, 8, 43, 184, 2, 161, 133, 43, 180, 1, 151, 133, 184, 2, 165, 153, 0, 6, 16, 7, 172, 16, 6, 54, 10, 43, 180, 1, 151, 133, 55, 11, 21, 10, 4, 164] := chW_of (by decide +kernel)
theorem W_prog_15_method_81_code_96 : chW prog_15_method_81_code 96 [21, 10, 4, 164, 0, 36, 32, 22, 4, 22, 6, 22, 8, 10, 22, 11, 184, 2, 165, 153, 0, 6, 21, 10, 172, 132, 10, 255, 22, 11, 20, 2, 159, 105, 55, 11] := chW_of (by decide +kernel)
theorem W_prog_15_method_81_code_128 : chW prog_15_method_81_code 128 [159, 105, 55, 11, 167, 255, 220, 4, 172] := chW_of (by decide +kernel)
theorem d_15_81_121 : decode prog_15_method_81_code 121 = .ok (.iinc 10 (-1), 3) := D_132 W_prog_15_method_81_code_96 25 rfl rfl rfl
abbrev Q_M_line (D : va_G) (ca : Nat → ClassId) (ad : Nat → Int → Nat → Nat) (L : List Nat) (r : Int) (F : zF) (B : zB) (A : Nat → Prop) : Array Value → State → Outcome → State → Prop := va_Ql (S := Unit) (fun p _ => p = lI r) (fun _ => zPo D ca ad lnM nM L F B A) A
def f_M_line_101 (K : Nat) (s0 : Int) (F : zF) (B : zB) : zO := some (s0, F, B)
set_option maxHeartbeats 4000000 in
set_option maxRecDepth 100000 in
theorem b_M_line_101 {D : va_G} {ca : Nat → ClassId} {ad : Nat → Int → Nat → Nat} {L : List Nat} {aS vS : Nat → Nat} {A : Nat → Prop} {p : Program} {l : Launch} {e : Env} {s : State} {m : MethodId} {args : Array Value} {below : List Frame} {meth : Method} {c : Code} {K : Nat} {r : Int} {F9 : zF} {B9 : zB} (X : zX D ca L aS vS A p s m args meth c prog_15_method_110_code 5 (Option.some Jvm.ClassFile.FieldType.long) "StaveHouseModel") {s0 : Int} {F : zF} {B : zB} {H : Heap} {locs : List Loc} {ls : Array Slot} (hf : f_M_line_101 K s0 F B = some (r, F9, B9)) (hZ : zH D ca ad lnM nM L F B A H) (hS : va_S A s.heap H locs) (hl : lv_has ls 5 []) : W p l e ({ frames := 1, cells := 0, slots := 0, locals := 21 } : Room) s m args below meth c H locs 0 0 (MQ below (Q_M_line D ca ad L r F9 B9 A) args s 0 0 A) (F0 m 101 ls [.long (lI s0)]) := by
  obtain ⟨hx, hb, hr, hml, hown, hts, hlk, hK, hA, hL, hX⟩ := id X
  replace hf : (some (s0, F, B)) = some (r, F9, B9) := hf
  cases hf
  exact W.lret hx hb hr (fun t ht hW => ⟨⟨_, (), rfl, rfl, by rw [ht]; exact hZ, va_K.moved hW.alike hK⟩, hS.F ht⟩) hS.2.2 (D_173 W_prog_15_method_110_code_96 5 rfl rfl) hlk

def f_M_line_25 (K : Nat)  (F : zF) (B : zB) : zO := some ((-1), F, B)
set_option maxHeartbeats 4000000 in
set_option maxRecDepth 100000 in
theorem b_M_line_25 {D : va_G} {ca : Nat → ClassId} {ad : Nat → Int → Nat → Nat} {L : List Nat} {aS vS : Nat → Nat} {A : Nat → Prop} {p : Program} {l : Launch} {e : Env} {s : State} {m : MethodId} {args : Array Value} {below : List Frame} {meth : Method} {c : Code} {K : Nat} {r : Int} {F9 : zF} {B9 : zB} (X : zX D ca L aS vS A p s m args meth c prog_15_method_110_code 5 (Option.some Jvm.ClassFile.FieldType.long) "StaveHouseModel")  {F : zF} {B : zB} {H : Heap} {locs : List Loc} {ls : Array Slot} (hf : f_M_line_25 K  F B = some (r, F9, B9)) (hZ : zH D ca ad lnM nM L F B A H) (hS : va_S A s.heap H locs) (hl : lv_has ls 5 []) : W p l e ({ frames := 1, cells := 0, slots := 0, locals := 21 } : Room) s m args below meth c H locs 0 0 (MQ below (Q_M_line D ca ad L r F9 B9 A) args s 0 0 A) (F0 m 25 ls []) := by
  obtain ⟨hx, hb, hr, hml, hown, hts, hlk, hK, hA, hL, hX⟩ := id X
  replace hf : (some ((-1), F, B)) = some (r, F9, B9) := hf
  refine lv_ldc2 hx hb hown (hts _ k_12_105) (D_20 W_prog_15_method_110_code_0 25 rfl rfl rfl) ?_
  refine W.eq (g2 := F0 m 28 ls [.long (lI (-1))]) rfl ?_
  cases hf
  exact W.lret hx hb hr (fun t ht hW => ⟨⟨_, (), rfl, rfl, by rw [ht]; exact hZ, va_K.moved hW.alike hK⟩, hS.F ht⟩) hS.2.2 (D_173 W_prog_15_method_110_code_0 28 rfl rfl) hlk

def f_M_line (K : Nat) (l1 : Int) (l2 : Int) (l3 : Int) (F : zF) (B : zB) : zO := zbind (f_M_piece K l1 F B) (fun r1 F1 B1 => (if r1 < 0 then f_M_line_25 K F1 B1 else if r32 l2 then (if l2 < 0 then f_M_line_25 K F1 B1 else if 0 ≤ r1 ∧ r1 < 3 then if r32 (F1 13 r1 48) then (if l2 < (F1 13 r1 48) then if r32 l3 then (if l3 = 0 then if 0 ≤ l2 ∧ l2 < 100 then if r32 (B1 13 r1 49 l2) then some (B1 13 r1 49 l2, F1, B1) else none else none else (if l3 = 1 then if 0 ≤ l2 ∧ l2 < 100 then if r32 (B1 13 r1 50 l2) then some (B1 13 r1 50 l2, F1, B1) else none else none else (if l3 = 2 then if 0 ≤ l2 ∧ l2 < 100 then if r32 (B1 13 r1 51 l2) then some (B1 13 r1 51 l2, F1, B1) else none else none else (if l3 = 3 then zbind (f_M_lineColumns K r1 l2 F1 B1) (fun r15 F15 B15 => if r32 r15 then some (r15, F15, B15) else none) else (if l3 = 4 then if 0 ≤ l2 ∧ l2 < 100 then f_M_line_101 K (B1 13 r1 52 l2) F1 B1 else none else f_M_line_101 K (-1) F1 B1))))) else none else f_M_line_25 K F1 B1) else none else none) else none))
set_option maxHeartbeats 4000000 in
set_option maxRecDepth 100000 in
theorem c_M_line {l : Launch} {D : va_G} {ca : Nat → ClassId} {ad : Nat → Int → Nat → Nat} {L : List Nat} {aS vS : Nat → Nat} {sz K : Nat}  {l1 : Int} {l2 : Int} {l3 : Int} {F F9 : zF} {B B9 : zB} {r : Int} (hf : f_M_line K l1 l2 l3 F B = some (r, F9, B9)) : Met l ({ cls := "StaveHouseModel", name := "line", desc := "(III)J" } : Jvm.MethodName) (Cond.code ({ cls := "StaveHouseModel", name := "line", desc := "(III)J" } : Jvm.MethodName) prog_15_method_110_code 5 (Option.some Jvm.ClassFile.FieldType.long) :: wAll) ({ frames := 1, cells := 0, slots := 0, locals := 21 } : Room) (va_Pc [.ref (ad 14 0 0), .int (iI l1), .int (iI l2), .int (iI l3)] (zPre D ca ad lnM nM L aS vS F B sz)) (Q_M_line D ca ad L r F9 B9 (zA L sz)) 0 0 (zA L sz) := by
  refine zMet (Qc := Q_M_line D ca ad L r F9 B9) (lv := [(0, .ref (ad 14 0 0)), (1, .int (iI l1)), (2, .int (iI l2)), (3, .int (iI l3))]) (by decide) (Nat.le_of_ble_eq_true rfl) rfl (fun A p e s m below meth c ls X hZ hS hl => ?_)
  obtain ⟨hx, hb, hr, hml, hown, hts, hlk, hK, hA, hL, hX⟩ := id X
  replace hf : (zbind (f_M_piece K l1 F B) (fun r1 F1 B1 => (if r1 < 0 then f_M_line_25 K F1 B1 else if r32 l2 then (if l2 < 0 then f_M_line_25 K F1 B1 else if 0 ≤ r1 ∧ r1 < 3 then if r32 (F1 13 r1 48) then (if l2 < (F1 13 r1 48) then if r32 l3 then (if l3 = 0 then if 0 ≤ l2 ∧ l2 < 100 then if r32 (B1 13 r1 49 l2) then some (B1 13 r1 49 l2, F1, B1) else none else none else (if l3 = 1 then if 0 ≤ l2 ∧ l2 < 100 then if r32 (B1 13 r1 50 l2) then some (B1 13 r1 50 l2, F1, B1) else none else none else (if l3 = 2 then if 0 ≤ l2 ∧ l2 < 100 then if r32 (B1 13 r1 51 l2) then some (B1 13 r1 51 l2, F1, B1) else none else none else (if l3 = 3 then zbind (f_M_lineColumns K r1 l2 F1 B1) (fun r15 F15 B15 => if r32 r15 then some (r15, F15, B15) else none) else (if l3 = 4 then if 0 ≤ l2 ∧ l2 < 100 then f_M_line_101 K (B1 13 r1 52 l2) F1 B1 else none else f_M_line_101 K (-1) F1 B1))))) else none else f_M_line_25 K F1 B1) else none else none) else none))) = some (r, F9, B9) := hf
  refine lv_aload_n hx hb (D_42 W_prog_15_method_110_code_0 0 rfl rfl) rfl (lv_at hl 0 rfl) ?_
  refine lv_iload_n hx hb (D_27 W_prog_15_method_110_code_0 1 rfl rfl) rfl (lv_at hl 1 rfl) ?_
  obtain ⟨r1, F1, B1, hc1, hf⟩ := gbind hf
  refine va_callq (va_runV (As := [.int (iI l1)]) (rest := []) ⟨hx, hb, hml, hown, hts⟩ (c_M_piece (l := l) hc1) (cwV 1 hts (gdV k_12_92 k_12_94 ks_131 k_1_9 k_12_95) rfl rfl rfl (by decide +kernel) ⟨Nat.le_of_ble_eq_true rfl, Nat.le_of_ble_eq_true rfl⟩) (zPV X hZ hS (ci := 14) (by decide) (by decide) (r := (RX14, TX14, 107)) rfl [.int (iI l1)]) rfl rfl hl.1 rfl (lv_room (Nat.le_of_ble_eq_true rfl)) (D_182 W_prog_15_method_110_code_0 2 rfl rfl rfl) ⟨Nat.le_of_ble_eq_true rfl, Nat.le_of_ble_eq_true rfl⟩) hS (fun q _ h => zAin X hS q h) (zAin X hS) (fun p1 u1 t1 H1 locs1 ht1 hv1 hw1 hB1 hz1 hk1 hS1 => ?_)
  have hZ1 := zBack X ht1 hB1
  subst hw1
  refine zastore (lv' := [(0, .ref (ad 14 0 0)), (1, .int (iI l1)), (2, .int (iI l2)), (3, .int (iI l3))]) hx hb (D_58 W_prog_15_method_110_code_0 5 rfl rfl) hl (by decide) (fun _ _ => rfl) (fun ls hl => ?_)
  refine zaload hx hb (D_25 W_prog_15_method_110_code_0 7 rfl rfl) (lv_at hl 0 rfl) ?_
  refine zifnull (tgt := 25) hx hb (D_198 W_prog_15_method_110_code_0 9 rfl rfl rfl) (by decide) (fun h2 => ?_) (fun h2 => ?_)
  · replace hf := gpos hf h2
    exact b_M_line_25 X hf hZ1 hS1 (lv_sub hl [] rfl)
  · replace hf := gneg hf h2
    refine lv_iload_n hx hb (D_28 W_prog_15_method_110_code_0 12 rfl rfl) rfl (lv_at hl 3 rfl) ?_
    obtain ⟨g3, hf⟩ := gif hf
    refine z0lt (tgt := 25) hx hb g3 (D_155 W_prog_15_method_110_code_0 13 rfl rfl rfl) (by decide) (fun h4 => ?_) (fun h4 => ?_)
    · replace hf := gpos hf h4
      exact b_M_line_25 X hf hZ1 hS1 (lv_sub hl [] rfl)
    · replace hf := gneg hf h4
      refine lv_iload_n hx hb (D_28 W_prog_15_method_110_code_0 16 rfl rfl) rfl (lv_at hl 3 rfl) ?_
      refine zaload hx hb (D_25 W_prog_15_method_110_code_0 17 rfl rfl) (lv_at hl 0 rfl) ?_
      obtain ⟨g5, hf⟩ := gif hf
      refine zunrf g5.1 ?_
      refine zget (ci := 13) (C := RX13) (T := TX13) (v := .int (iI (F1 13 r1 48))) (k := 48) hx hb hts inW_13 hown hK hZ1 g5.1 g5.2 rfl (by decide) k_9_212 rfl (D_180 W_prog_15_method_110_code_0 19 rfl rfl rfl) ?_
      obtain ⟨g6, hf⟩ := gif hf
      refine zlt (tgt := 29) hx hb g3 g6 (D_161 W_prog_15_method_110_code_0 22 rfl rfl rfl) (by decide) (fun h7 => ?_) (fun h7 => ?_)
      · replace hf := gpos hf h7
        refine lv_iload_n hx hb (D_29 W_prog_15_method_110_code_0 29 rfl rfl) rfl (lv_at hl 4 rfl) ?_
        obtain ⟨g8, hf⟩ := gif hf
        refine z0ne (tgt := 42) hx hb g8 (D_154 W_prog_15_method_110_code_0 30 rfl rfl rfl) (by decide) (fun h9 => ?_) (fun h9 => ?_)
        · replace hf := gneg hf h9
          refine lv_iload_n hx hb (D_29 W_prog_15_method_110_code_32 10 rfl rfl) rfl (lv_at hl 4 rfl) ?_
          refine lv_iconst (v := iI 1) hx hb (D_4 W_prog_15_method_110_code_32 11 rfl rfl) rfl ?_
          refine zne (tgt := 56) hx hb g8 (by decide) (D_160 W_prog_15_method_110_code_32 12 rfl rfl rfl) (by decide) (fun h10 => ?_) (fun h10 => ?_)
          · replace hf := gneg hf h10
            refine lv_iload_n hx hb (D_29 W_prog_15_method_110_code_32 24 rfl rfl) rfl (lv_at hl 4 rfl) ?_
            refine lv_iconst (v := iI 2) hx hb (D_5 W_prog_15_method_110_code_32 25 rfl rfl) rfl ?_
            refine zne (tgt := 70) hx hb g8 (by decide) (D_160 W_prog_15_method_110_code_32 26 rfl rfl rfl) (by decide) (fun h11 => ?_) (fun h11 => ?_)
            · replace hf := gneg hf h11
              refine lv_iload_n hx hb (D_29 W_prog_15_method_110_code_64 6 rfl rfl) rfl (lv_at hl 4 rfl) ?_
              refine lv_iconst (v := iI 3) hx hb (D_6 W_prog_15_method_110_code_64 7 rfl rfl) rfl ?_
              refine zne (tgt := 83) hx hb g8 (by decide) (D_160 W_prog_15_method_110_code_64 8 rfl rfl rfl) (by decide) (fun h12 => ?_) (fun h12 => ?_)
              · replace hf := gneg hf h12
                refine lv_iload_n hx hb (D_29 W_prog_15_method_110_code_64 19 rfl rfl) rfl (lv_at hl 4 rfl) ?_
                refine lv_iconst (v := iI 4) hx hb (D_7 W_prog_15_method_110_code_64 20 rfl rfl) rfl ?_
                refine zne (tgt := 98) hx hb g8 (by decide) (D_160 W_prog_15_method_110_code_64 21 rfl rfl rfl) (by decide) (fun h13 => ?_) (fun h13 => ?_)
                · replace hf := gneg hf h13
                  refine lv_ldc2 hx hb hown (hts _ k_12_105) (D_20 W_prog_15_method_110_code_96 2 rfl rfl rfl) ?_
                  refine W.eq (g2 := F0 m 101 ls [.long (lI (-1))]) rfl ?_
                  exact b_M_line_101 X hf hZ1 hS1 (lv_sub hl [] rfl)
                · replace hf := gpos hf h13
                  refine zaload hx hb (D_25 W_prog_15_method_110_code_64 24 rfl rfl) (lv_at hl 0 rfl) ?_
                  refine zunrf g5.1 ?_
                  refine zget (ci := 13) (C := RX13) (T := TX13) (v := .ref (ad 13 r1 (52 + 1))) (k := 52) hx hb hts inW_13 hown hK hZ1 g5.1 g5.2 rfl (by decide) k_9_220 rfl (D_180 W_prog_15_method_110_code_64 26 rfl rfl rfl) ?_
                  refine lv_iload_n hx hb (D_28 W_prog_15_method_110_code_64 29 rfl rfl) rfl (lv_at hl 3 rfl) ?_
                  obtain ⟨g14, hf⟩ := gif hf
                  refine zlald (ci := 13) (k := 52) hx hb hK rfl hZ1 g5.1 g5.2 rfl (Nat.le_of_ble_eq_true rfl) g14.1 g14.2 (D_47 W_prog_15_method_110_code_64 30 rfl rfl) ?_
                  refine lv_goto (tgt := 101) hx hb (D_167 W_prog_15_method_110_code_64 31 rfl rfl rfl) (by decide) ?_
                  exact b_M_line_101 X hf hZ1 hS1 (lv_sub hl [] rfl)
              · replace hf := gpos hf h12
                refine zaload hx hb (D_25 W_prog_15_method_110_code_64 11 rfl rfl) (lv_at hl 0 rfl) ?_
                refine lv_iload_n hx hb (D_28 W_prog_15_method_110_code_64 13 rfl rfl) rfl (lv_at hl 3 rfl) ?_
                refine W.eq (g2 := F0 m 78 ls [.int (iI l2), .ref (ad 13 r1 0)]) (by rw [zrf_pos (ad := ad) (t := 13) g5.1]; try rfl) ?_
                obtain ⟨r15, F15, B15, hc15, hf⟩ := gbind hf
                refine va_calli (va_runS (As := [.ref (ad 13 r1 0), .int (iI l2)]) (rest := []) ⟨hx, hb, hml, hown, hts⟩ (c_M_lineColumns (l := l) hc15) (va_cwS 2 hts (gdS k_12_111 k_12_112 k_1_9 k_12_113) rfl rfl rfl (by decide +kernel) ⟨Nat.le_of_ble_eq_true rfl, Nat.le_of_ble_eq_true rfl⟩) (zPS X hZ1 hS1 [.ref (ad 13 r1 0), .int (iI l2)]) rfl rfl hl.1 rfl (lv_room (Nat.le_of_ble_eq_true rfl)) (D_184 W_prog_15_method_110_code_64 14 rfl rfl rfl) ⟨Nat.le_of_ble_eq_true rfl, Nat.le_of_ble_eq_true rfl⟩) hS1 (fun q _ h => zAin X hS1 q h) (zAin X hS1) (fun p15 u15 t15 H15 locs15 ht15 hv15 hw15 hB15 hz15 hk15 hS15 => ?_)
                have hZ15 := zBack X ht15 hB15
                subst hw15
                obtain ⟨g16, hf⟩ := gif hf
                refine zi2l hx hb g16 (D_133 W_prog_15_method_110_code_64 17 rfl rfl) ?_
                cases hf
                exact W.lret hx hb hr (fun t ht hW => ⟨⟨_, (), rfl, rfl, by rw [ht]; exact hZ15, va_K.moved hW.alike hK⟩, hS15.F ht⟩) hS15.2.2 (D_173 W_prog_15_method_110_code_64 18 rfl rfl) hlk
            · replace hf := gpos hf h11
              refine zaload hx hb (D_25 W_prog_15_method_110_code_32 29 rfl rfl) (lv_at hl 0 rfl) ?_
              refine zunrf g5.1 ?_
              refine zget (ci := 13) (C := RX13) (T := TX13) (v := .ref (ad 13 r1 (51 + 1))) (k := 51) hx hb hts inW_13 hown hK hZ1 g5.1 g5.2 rfl (by decide) k_9_218 rfl (D_180 W_prog_15_method_110_code_32 31 rfl rfl rfl) ?_
              refine lv_iload_n hx hb (D_28 W_prog_15_method_110_code_64 2 rfl rfl) rfl (lv_at hl 3 rfl) ?_
              obtain ⟨g17, hf⟩ := gif hf
              refine zald (ci := 13) (k := 51) hx hb hK rfl hZ1 g5.1 g5.2 rfl (Nat.le_of_ble_eq_true rfl) g17.1 g17.2 (D_46 W_prog_15_method_110_code_64 3 rfl rfl) ?_
              obtain ⟨g18, hf⟩ := gif hf
              refine zi2l hx hb g18 (D_133 W_prog_15_method_110_code_64 4 rfl rfl) ?_
              cases hf
              exact W.lret hx hb hr (fun t ht hW => ⟨⟨_, (), rfl, rfl, by rw [ht]; exact hZ1, va_K.moved hW.alike hK⟩, hS1.F ht⟩) hS1.2.2 (D_173 W_prog_15_method_110_code_64 5 rfl rfl) hlk
          · replace hf := gpos hf h10
            refine zaload hx hb (D_25 W_prog_15_method_110_code_32 15 rfl rfl) (lv_at hl 0 rfl) ?_
            refine zunrf g5.1 ?_
            refine zget (ci := 13) (C := RX13) (T := TX13) (v := .ref (ad 13 r1 (50 + 1))) (k := 50) hx hb hts inW_13 hown hK hZ1 g5.1 g5.2 rfl (by decide) k_9_216 rfl (D_180 W_prog_15_method_110_code_32 17 rfl rfl rfl) ?_
            refine lv_iload_n hx hb (D_28 W_prog_15_method_110_code_32 20 rfl rfl) rfl (lv_at hl 3 rfl) ?_
            obtain ⟨g19, hf⟩ := gif hf
            refine zald (ci := 13) (k := 50) hx hb hK rfl hZ1 g5.1 g5.2 rfl (Nat.le_of_ble_eq_true rfl) g19.1 g19.2 (D_46 W_prog_15_method_110_code_32 21 rfl rfl) ?_
            obtain ⟨g20, hf⟩ := gif hf
            refine zi2l hx hb g20 (D_133 W_prog_15_method_110_code_32 22 rfl rfl) ?_
            cases hf
            exact W.lret hx hb hr (fun t ht hW => ⟨⟨_, (), rfl, rfl, by rw [ht]; exact hZ1, va_K.moved hW.alike hK⟩, hS1.F ht⟩) hS1.2.2 (D_173 W_prog_15_method_110_code_32 23 rfl rfl) hlk
        · replace hf := gpos hf h9
          refine zaload hx hb (D_25 W_prog_15_method_110_code_32 1 rfl rfl) (lv_at hl 0 rfl) ?_
          refine zunrf g5.1 ?_
          refine zget (ci := 13) (C := RX13) (T := TX13) (v := .ref (ad 13 r1 (49 + 1))) (k := 49) hx hb hts inW_13 hown hK hZ1 g5.1 g5.2 rfl (by decide) k_9_214 rfl (D_180 W_prog_15_method_110_code_32 3 rfl rfl rfl) ?_
          refine lv_iload_n hx hb (D_28 W_prog_15_method_110_code_32 6 rfl rfl) rfl (lv_at hl 3 rfl) ?_
          obtain ⟨g21, hf⟩ := gif hf
          refine zald (ci := 13) (k := 49) hx hb hK rfl hZ1 g5.1 g5.2 rfl (Nat.le_of_ble_eq_true rfl) g21.1 g21.2 (D_46 W_prog_15_method_110_code_32 7 rfl rfl) ?_
          obtain ⟨g22, hf⟩ := gif hf
          refine zi2l hx hb g22 (D_133 W_prog_15_method_110_code_32 8 rfl rfl) ?_
          cases hf
          exact W.lret hx hb hr (fun t ht hW => ⟨⟨_, (), rfl, rfl, by rw [ht]; exact hZ1, va_K.moved hW.alike hK⟩, hS1.F ht⟩) hS1.2.2 (D_173 W_prog_15_method_110_code_32 9 rfl rfl) hlk
      · replace hf := gneg hf h7
        exact b_M_line_25 X hf hZ1 hS1 (lv_sub hl [] rfl)

abbrev Q_M_x (D : va_G) (ca : Nat → ClassId) (ad : Nat → Int → Nat → Nat) (L : List Nat) (r : Int) (F : zF) (B : zB) (A : Nat → Prop) : Array Value → State → Outcome → State → Prop := va_Qi (S := Unit) (fun p _ => p = iI r) (fun _ => zPo D ca ad lnM nM L F B A) A
def f_M_x_301 (K : Nat) (s0 : Int) (F : zF) (B : zB) : zO := some (s0, F, B)
set_option maxHeartbeats 4000000 in
set_option maxRecDepth 100000 in
theorem b_M_x_301 {D : va_G} {ca : Nat → ClassId} {ad : Nat → Int → Nat → Nat} {L : List Nat} {aS vS : Nat → Nat} {A : Nat → Prop} {p : Program} {l : Launch} {e : Env} {s : State} {m : MethodId} {args : Array Value} {below : List Frame} {meth : Method} {c : Code} {K : Nat} {r : Int} {F9 : zF} {B9 : zB} (X : zX D ca L aS vS A p s m args meth c prog_15_method_111_code 12 (Option.some Jvm.ClassFile.FieldType.int) "StaveHouseModel") {s0 : Int} {F : zF} {B : zB} {H : Heap} {locs : List Loc} {ls : Array Slot} (hf : f_M_x_301 K s0 F B = some (r, F9, B9)) (hZ : zH D ca ad lnM nM L F B A H) (hS : va_S A s.heap H locs) (hl : lv_has ls 12 []) : W p l e ({ frames := 1, cells := 0, slots := 0, locals := 21 } : Room) s m args below meth c H locs 0 0 (MQ below (Q_M_x D ca ad L r F9 B9 A) args s 0 0 A) (F0 m 301 ls [.int (iI s0)]) := by
  obtain ⟨hx, hb, hr, hml, hown, hts, hlk, hK, hA, hL, hX⟩ := id X
  replace hf : (some (s0, F, B)) = some (r, F9, B9) := hf
  cases hf
  exact W.iret hx hb hr (fun t ht hW => ⟨⟨_, (), rfl, rfl, by rw [ht]; exact hZ, va_K.moved hW.alike hK⟩, hS.F ht⟩) hS.2.2 (D_172 W_prog_15_method_111_code_288 13 rfl rfl) hlk

def f_M_x_258 (K : Nat) (l10 : Int) (l9 : Int) (l8 : Int) (l7 : Int) (l4 : Int) (s0 : Int) (F : zF) (B : zB) : zO := if r32 s0 then (if s0 = 0 then f_M_x_301 K l10 F B else if 0 ≤ l4 ∧ l4 < 3 then if 0 ≤ l7 ∧ l7 < 100 then zbind (f_M_lineColumns K l4 l7 F B) (fun r50 F50 B50 => if ¬ iI r50 = 0 then f_M_x_301 K (l10 + (zdv (((F 13 l4 47) - (B 13 l4 51 l7)) * (l9 - l8)) r50)) F50 B50 else none) else none else none) else none
set_option maxHeartbeats 4000000 in
set_option maxRecDepth 100000 in
theorem b_M_x_258 {D : va_G} {ca : Nat → ClassId} {ad : Nat → Int → Nat → Nat} {L : List Nat} {aS vS : Nat → Nat} {A : Nat → Prop} {p : Program} {l : Launch} {e : Env} {s : State} {m : MethodId} {args : Array Value} {below : List Frame} {meth : Method} {c : Code} {K : Nat} {r : Int} {F9 : zF} {B9 : zB} (X : zX D ca L aS vS A p s m args meth c prog_15_method_111_code 12 (Option.some Jvm.ClassFile.FieldType.int) "StaveHouseModel") {l10 : Int} {l9 : Int} {l8 : Int} {l7 : Int} {l4 : Int} {s0 : Int} {F : zF} {B : zB} {H : Heap} {locs : List Loc} {ls : Array Slot} (hf : f_M_x_258 K l10 l9 l8 l7 l4 s0 F B = some (r, F9, B9)) (hZ : zH D ca ad lnM nM L F B A H) (hS : va_S A s.heap H locs) (hl : lv_has ls 12 [(10, .int (iI l10)), (9, .int (iI l9)), (8, .int (iI l8)), (7, .int (iI l7)), (4, va_rf (zrf ad 13 l4))]) : W p l e ({ frames := 1, cells := 0, slots := 0, locals := 21 } : Room) s m args below meth c H locs 0 0 (MQ below (Q_M_x D ca ad L r F9 B9 A) args s 0 0 A) (F0 m 258 ls [.int (iI s0)]) := by
  obtain ⟨hx, hb, hr, hml, hown, hts, hlk, hK, hA, hL, hX⟩ := id X
  replace hf : (if r32 s0 then (if s0 = 0 then f_M_x_301 K l10 F B else if 0 ≤ l4 ∧ l4 < 3 then if 0 ≤ l7 ∧ l7 < 100 then zbind (f_M_lineColumns K l4 l7 F B) (fun r50 F50 B50 => if ¬ iI r50 = 0 then f_M_x_301 K (l10 + (zdv (((F 13 l4 47) - (B 13 l4 51 l7)) * (l9 - l8)) r50)) F50 B50 else none) else none else none) else none) = some (r, F9, B9) := hf
  refine lv_istore (lv' := [(11, .int (iI s0)), (10, .int (iI l10)), (9, .int (iI l9)), (8, .int (iI l8)), (7, .int (iI l7)), (4, va_rf (zrf ad 13 l4))]) hx hb (D_54 W_prog_15_method_111_code_256 2 rfl rfl) hl (by decide) rfl (fun ls hl => ?_)
  refine lv_iload hx hb (D_21 W_prog_15_method_111_code_256 4 rfl rfl) (lv_at hl 0 rfl) ?_
  obtain ⟨g46, hf⟩ := gif hf
  refine z0eq (tgt := 299) hx hb g46 (D_153 W_prog_15_method_111_code_256 6 rfl rfl rfl) (by decide) (fun h47 => ?_) (fun h47 => ?_)
  · replace hf := gpos hf h47
    refine lv_iload hx hb (D_21 W_prog_15_method_111_code_288 11 rfl rfl) (lv_at hl 1 rfl) ?_
    exact b_M_x_301 X hf hZ hS (lv_sub hl [] rfl)
  · replace hf := gneg hf h47
    refine lv_iload hx hb (D_21 W_prog_15_method_111_code_256 9 rfl rfl) (lv_at hl 1 rfl) ?_
    refine zaload hx hb (D_25 W_prog_15_method_111_code_256 11 rfl rfl) (lv_at hl 5 rfl) ?_
    obtain ⟨g48, hf⟩ := gif hf
    refine zunrf g48.1 ?_
    refine zget (ci := 13) (C := RX13) (T := TX13) (v := .int (iI (F 13 l4 47))) (k := 47) hx hb hts inW_13 hown hK hZ g48.1 g48.2 rfl (by decide) k_9_211 rfl (D_180 W_prog_15_method_111_code_256 13 rfl rfl rfl) ?_
    refine zaload hx hb (D_25 W_prog_15_method_111_code_256 16 rfl rfl) (lv_at hl 5 rfl) ?_
    refine zunrf g48.1 ?_
    refine zget (ci := 13) (C := RX13) (T := TX13) (v := .ref (ad 13 l4 (51 + 1))) (k := 51) hx hb hts inW_13 hown hK hZ g48.1 g48.2 rfl (by decide) k_9_218 rfl (D_180 W_prog_15_method_111_code_256 18 rfl rfl rfl) ?_
    refine lv_iload hx hb (D_21 W_prog_15_method_111_code_256 21 rfl rfl) (lv_at hl 4 rfl) ?_
    obtain ⟨g49, hf⟩ := gif hf
    refine zald (ci := 13) (k := 51) hx hb hK rfl hZ g48.1 g48.2 rfl (Nat.le_of_ble_eq_true rfl) g49.1 g49.2 (D_46 W_prog_15_method_111_code_256 23 rfl rfl) ?_
    refine zsub hx hb (D_100 W_prog_15_method_111_code_256 24 rfl rfl) ?_
    refine lv_iload hx hb (D_21 W_prog_15_method_111_code_256 25 rfl rfl) (lv_at hl 2 rfl) ?_
    refine lv_iload hx hb (D_21 W_prog_15_method_111_code_256 27 rfl rfl) (lv_at hl 3 rfl) ?_
    refine zsub hx hb (D_100 W_prog_15_method_111_code_256 29 rfl rfl) ?_
    refine zmul hx hb (D_104 W_prog_15_method_111_code_256 30 rfl rfl) ?_
    refine zaload hx hb (D_25 W_prog_15_method_111_code_256 31 rfl rfl) (lv_at hl 5 rfl) ?_
    refine lv_iload hx hb (D_21 W_prog_15_method_111_code_288 1 rfl rfl) (lv_at hl 4 rfl) ?_
    refine W.eq (g2 := F0 m 291 ls [.int (iI l7), .ref (ad 13 l4 0), .int (iI (((F 13 l4 47) - (B 13 l4 51 l7)) * (l9 - l8))), .int (iI l10)]) (by rw [zrf_pos (ad := ad) (t := 13) g48.1]; try rfl) ?_
    obtain ⟨r50, F50, B50, hc50, hf⟩ := gbind hf
    refine va_calli (va_runS (As := [.ref (ad 13 l4 0), .int (iI l7)]) (rest := [.int (iI (((F 13 l4 47) - (B 13 l4 51 l7)) * (l9 - l8))), .int (iI l10)]) ⟨hx, hb, hml, hown, hts⟩ (c_M_lineColumns (l := l) hc50) (va_cwS 2 hts (gdS k_12_111 k_12_112 k_1_9 k_12_113) rfl rfl rfl (by decide +kernel) ⟨Nat.le_of_ble_eq_true rfl, Nat.le_of_ble_eq_true rfl⟩) (zPS X hZ hS [.ref (ad 13 l4 0), .int (iI l7)]) rfl rfl hl.1 rfl (lv_room (Nat.le_of_ble_eq_true rfl)) (D_184 W_prog_15_method_111_code_288 3 rfl rfl rfl) ⟨Nat.le_of_ble_eq_true rfl, Nat.le_of_ble_eq_true rfl⟩) hS (fun q _ h => zAin X hS q h) (zAin X hS) (fun p50 u50 t50 H50 locs50 ht50 hv50 hw50 hB50 hz50 hk50 hS50 => ?_)
    have hZ50 := zBack X ht50 hB50
    subst hw50
    obtain ⟨g51, hf⟩ := gif hf
    refine zdv_r hx hb g51 (D_108 W_prog_15_method_111_code_288 6 rfl rfl) ?_
    refine zadd hx hb (D_96 W_prog_15_method_111_code_288 7 rfl rfl) ?_
    refine lv_goto (tgt := 301) hx hb (D_167 W_prog_15_method_111_code_288 8 rfl rfl rfl) (by decide) ?_
    exact b_M_x_301 X hf hZ50 hS50 (lv_sub hl [] rfl)

def f_M_x_257 (K : Nat) (l10 : Int) (l9 : Int) (l8 : Int) (l7 : Int) (l4 : Int) (F : zF) (B : zB) : zO := f_M_x_258 K l10 l9 l8 l7 l4 0 F B
set_option maxHeartbeats 4000000 in
set_option maxRecDepth 100000 in
theorem b_M_x_257 {D : va_G} {ca : Nat → ClassId} {ad : Nat → Int → Nat → Nat} {L : List Nat} {aS vS : Nat → Nat} {A : Nat → Prop} {p : Program} {l : Launch} {e : Env} {s : State} {m : MethodId} {args : Array Value} {below : List Frame} {meth : Method} {c : Code} {K : Nat} {r : Int} {F9 : zF} {B9 : zB} (X : zX D ca L aS vS A p s m args meth c prog_15_method_111_code 12 (Option.some Jvm.ClassFile.FieldType.int) "StaveHouseModel") {l10 : Int} {l9 : Int} {l8 : Int} {l7 : Int} {l4 : Int} {F : zF} {B : zB} {H : Heap} {locs : List Loc} {ls : Array Slot} (hf : f_M_x_257 K l10 l9 l8 l7 l4 F B = some (r, F9, B9)) (hZ : zH D ca ad lnM nM L F B A H) (hS : va_S A s.heap H locs) (hl : lv_has ls 12 [(10, .int (iI l10)), (9, .int (iI l9)), (8, .int (iI l8)), (7, .int (iI l7)), (4, va_rf (zrf ad 13 l4))]) : W p l e ({ frames := 1, cells := 0, slots := 0, locals := 21 } : Room) s m args below meth c H locs 0 0 (MQ below (Q_M_x D ca ad L r F9 B9 A) args s 0 0 A) (F0 m 257 ls []) := by
  obtain ⟨hx, hb, hr, hml, hown, hts, hlk, hK, hA, hL, hX⟩ := id X
  replace hf : (f_M_x_258 K l10 l9 l8 l7 l4 0 F B) = some (r, F9, B9) := hf
  refine lv_iconst (v := iI 0) hx hb (D_3 W_prog_15_method_111_code_256 1 rfl rfl) rfl ?_
  exact b_M_x_258 X hf hZ hS (lv_sub hl [0, 1, 2, 3, 4] rfl)

def f_M_x_199 (K : Nat) : Nat → Int → Int → Int → Int → Int → Int → zF → zB → zO
  | 0, _, _, _, _, _, _, _, _ => none
  | n + 1, l11, l10, l9, l8, l7, l4, F, B => if r32 l11 then if r32 l9 then (if l9 ≤ l11 then if 0 ≤ l4 ∧ l4 < 3 then if 0 ≤ l7 ∧ l7 < 100 then if r32 (B 13 l4 51 l7) then if r32 (F 13 l4 47) then (if (F 13 l4 47) ≤ (B 13 l4 51 l7) then f_M_x_257 K l10 l9 l8 l7 l4 F B else if r32 (l7 + 1) then if r32 (F 13 l4 48) then (if (F 13 l4 48) ≤ (l7 + 1) then f_M_x_257 K l10 l9 l8 l7 l4 F B else f_M_x_258 K l10 l9 l8 l7 l4 1 F B) else none else none) else none else none else none else none else if 0 ≤ l4 ∧ l4 < 3 then if 0 ≤ l11 ∧ l11 < 3200 then f_M_x_199 K n (l11 + 1) (l10 + (B 13 l4 45 l11)) l9 l8 l7 l4 F B else none else none) else none else none
set_option maxHeartbeats 4000000 in
set_option maxRecDepth 100000 in
theorem b_M_x_199 {D : va_G} {ca : Nat → ClassId} {ad : Nat → Int → Nat → Nat} {L : List Nat} {aS vS : Nat → Nat} {A : Nat → Prop} {p : Program} {l : Launch} {e : Env} {s : State} {m : MethodId} {args : Array Value} {below : List Frame} {meth : Method} {c : Code} {K : Nat} {r : Int} {F9 : zF} {B9 : zB} (X : zX D ca L aS vS A p s m args meth c prog_15_method_111_code 12 (Option.some Jvm.ClassFile.FieldType.int) "StaveHouseModel") : ∀ {n : Nat} {l11 : Int} {l10 : Int} {l9 : Int} {l8 : Int} {l7 : Int} {l4 : Int} {F : zF} {B : zB} {H : Heap} {locs : List Loc} {ls : Array Slot}, f_M_x_199 K n l11 l10 l9 l8 l7 l4 F B = some (r, F9, B9) → zH D ca ad lnM nM L F B A H → va_S A s.heap H locs → lv_has ls 12 [(11, .int (iI l11)), (10, .int (iI l10)), (9, .int (iI l9)), (8, .int (iI l8)), (7, .int (iI l7)), (4, va_rf (zrf ad 13 l4))] → W p l e ({ frames := 1, cells := 0, slots := 0, locals := 21 } : Room) s m args below meth c H locs 0 0 (MQ below (Q_M_x D ca ad L r F9 B9 A) args s 0 0 A) (F0 m 199 ls []) := by
  obtain ⟨hx, hb, hr, hml, hown, hts, hlk, hK, hA, hL, hX⟩ := id X
  intro n
  induction n with
  | zero =>
    intros
    rename_i hf _ _ _
    cases hf
  | succ n ih =>
    intro l11 l10 l9 l8 l7 l4 F B H locs ls hf hZ hS hl
    replace hf : (if r32 l11 then if r32 l9 then (if l9 ≤ l11 then if 0 ≤ l4 ∧ l4 < 3 then if 0 ≤ l7 ∧ l7 < 100 then if r32 (B 13 l4 51 l7) then if r32 (F 13 l4 47) then (if (F 13 l4 47) ≤ (B 13 l4 51 l7) then f_M_x_257 K l10 l9 l8 l7 l4 F B else if r32 (l7 + 1) then if r32 (F 13 l4 48) then (if (F 13 l4 48) ≤ (l7 + 1) then f_M_x_257 K l10 l9 l8 l7 l4 F B else f_M_x_258 K l10 l9 l8 l7 l4 1 F B) else none else none) else none else none else none else none else if 0 ≤ l4 ∧ l4 < 3 then if 0 ≤ l11 ∧ l11 < 3200 then f_M_x_199 K n (l11 + 1) (l10 + (B 13 l4 45 l11)) l9 l8 l7 l4 F B else none else none) else none else none) = some (r, F9, B9) := hf
    refine lv_iload hx hb (D_21 W_prog_15_method_111_code_192 7 rfl rfl) (lv_at hl 0 rfl) ?_
    refine lv_iload hx hb (D_21 W_prog_15_method_111_code_192 9 rfl rfl) (lv_at hl 2 rfl) ?_
    obtain ⟨g33, hf⟩ := gif hf
    obtain ⟨g34, hf⟩ := gif hf
    refine zge (tgt := 225) hx hb g33 g34 (D_162 W_prog_15_method_111_code_192 11 rfl rfl rfl) (by decide) (fun h35 => ?_) (fun h35 => ?_)
    · replace hf := gpos hf h35
      refine zaload hx hb (D_25 W_prog_15_method_111_code_224 1 rfl rfl) (lv_at hl 5 rfl) ?_
      obtain ⟨g36, hf⟩ := gif hf
      refine zunrf g36.1 ?_
      refine zget (ci := 13) (C := RX13) (T := TX13) (v := .ref (ad 13 l4 (51 + 1))) (k := 51) hx hb hts inW_13 hown hK hZ g36.1 g36.2 rfl (by decide) k_9_218 rfl (D_180 W_prog_15_method_111_code_224 3 rfl rfl rfl) ?_
      refine lv_iload hx hb (D_21 W_prog_15_method_111_code_224 6 rfl rfl) (lv_at hl 4 rfl) ?_
      obtain ⟨g37, hf⟩ := gif hf
      refine zald (ci := 13) (k := 51) hx hb hK rfl hZ g36.1 g36.2 rfl (Nat.le_of_ble_eq_true rfl) g37.1 g37.2 (D_46 W_prog_15_method_111_code_224 8 rfl rfl) ?_
      refine zaload hx hb (D_25 W_prog_15_method_111_code_224 9 rfl rfl) (lv_at hl 5 rfl) ?_
      refine zunrf g36.1 ?_
      refine zget (ci := 13) (C := RX13) (T := TX13) (v := .int (iI (F 13 l4 47))) (k := 47) hx hb hts inW_13 hown hK hZ g36.1 g36.2 rfl (by decide) k_9_211 rfl (D_180 W_prog_15_method_111_code_224 11 rfl rfl rfl) ?_
      obtain ⟨g38, hf⟩ := gif hf
      obtain ⟨g39, hf⟩ := gif hf
      refine zge (tgt := 257) hx hb g38 g39 (D_162 W_prog_15_method_111_code_224 14 rfl rfl rfl) (by decide) (fun h40 => ?_) (fun h40 => ?_)
      · replace hf := gpos hf h40
        exact b_M_x_257 X hf hZ hS (lv_sub hl [1, 2, 3, 4, 5] rfl)
      · replace hf := gneg hf h40
        refine lv_iload hx hb (D_21 W_prog_15_method_111_code_224 17 rfl rfl) (lv_at hl 4 rfl) ?_
        refine lv_iconst (v := iI 1) hx hb (D_4 W_prog_15_method_111_code_224 19 rfl rfl) rfl ?_
        refine zadd hx hb (D_96 W_prog_15_method_111_code_224 20 rfl rfl) ?_
        refine zaload hx hb (D_25 W_prog_15_method_111_code_224 21 rfl rfl) (lv_at hl 5 rfl) ?_
        refine zunrf g36.1 ?_
        refine zget (ci := 13) (C := RX13) (T := TX13) (v := .int (iI (F 13 l4 48))) (k := 48) hx hb hts inW_13 hown hK hZ g36.1 g36.2 rfl (by decide) k_9_212 rfl (D_180 W_prog_15_method_111_code_224 23 rfl rfl rfl) ?_
        obtain ⟨g41, hf⟩ := gif hf
        obtain ⟨g42, hf⟩ := gif hf
        refine zge (tgt := 257) hx hb g41 g42 (D_162 W_prog_15_method_111_code_224 26 rfl rfl rfl) (by decide) (fun h43 => ?_) (fun h43 => ?_)
        · replace hf := gpos hf h43
          exact b_M_x_257 X hf hZ hS (lv_sub hl [1, 2, 3, 4, 5] rfl)
        · replace hf := gneg hf h43
          refine lv_iconst (v := iI 1) hx hb (D_4 W_prog_15_method_111_code_224 29 rfl rfl) rfl ?_
          refine lv_goto (tgt := 258) hx hb (D_167 W_prog_15_method_111_code_224 30 rfl rfl rfl) (by decide) ?_
          exact b_M_x_258 X hf hZ hS (lv_sub hl [1, 2, 3, 4, 5] rfl)
    · replace hf := gneg hf h35
      refine lv_iload hx hb (D_21 W_prog_15_method_111_code_192 14 rfl rfl) (lv_at hl 1 rfl) ?_
      refine zaload hx hb (D_25 W_prog_15_method_111_code_192 16 rfl rfl) (lv_at hl 5 rfl) ?_
      obtain ⟨g44, hf⟩ := gif hf
      refine zunrf g44.1 ?_
      refine zget (ci := 13) (C := RX13) (T := TX13) (v := .ref (ad 13 l4 (45 + 1))) (k := 45) hx hb hts inW_13 hown hK hZ g44.1 g44.2 rfl (by decide) k_9_208 rfl (D_180 W_prog_15_method_111_code_192 18 rfl rfl rfl) ?_
      refine lv_iload hx hb (D_21 W_prog_15_method_111_code_192 21 rfl rfl) (lv_at hl 0 rfl) ?_
      obtain ⟨g45, hf⟩ := gif hf
      refine zald (ci := 13) (k := 45) hx hb hK rfl hZ g44.1 g44.2 rfl (Nat.le_of_ble_eq_true rfl) g45.1 g45.2 (D_46 W_prog_15_method_111_code_192 23 rfl rfl) ?_
      refine zadd hx hb (D_96 W_prog_15_method_111_code_192 24 rfl rfl) ?_
      refine lv_istore (lv' := [(10, .int (iI (l10 + (B 13 l4 45 l11)))), (11, .int (iI l11)), (9, .int (iI l9)), (8, .int (iI l8)), (7, .int (iI l7)), (4, va_rf (zrf ad 13 l4))]) hx hb (D_54 W_prog_15_method_111_code_192 25 rfl rfl) hl (by decide) rfl (fun ls hl => ?_)
      refine lv_iinc (v := iI (l11 + 1)) (lv' := [(11, .int (iI (l11 + 1))), (10, .int (iI (l10 + (B 13 l4 45 l11)))), (9, .int (iI l9)), (8, .int (iI l8)), (7, .int (iI l7)), (4, va_rf (zrf ad 13 l4))]) hx hb d_15_111_219 hl (k := 1) rfl (iI_add _ 1) (by decide) rfl (fun ls hl => ?_)
      refine lv_goto (tgt := 199) hx hb (D_167 W_prog_15_method_111_code_192 30 rfl rfl rfl) (by decide) ?_
      exact ih hf hZ hS (lv_sub hl [0, 1, 2, 3, 4, 5] rfl)

def f_M_x_157 (rec117 : Int → Int → Int → Int → Int → Int → zF → zB → zO) (K : Nat) (l9 : Int) (l8 : Int) (l7 : Int) (l6 : Int) (l5 : Int) (l4 : Int) (F : zF) (B : zB) : zO := rec117 (l9 + 1) l8 l7 l6 l5 l4 F B
set_option maxHeartbeats 4000000 in
set_option maxRecDepth 100000 in
theorem b_M_x_157 {D : va_G} {ca : Nat → ClassId} {ad : Nat → Int → Nat → Nat} {L : List Nat} {aS vS : Nat → Nat} {A : Nat → Prop} {p : Program} {l : Launch} {e : Env} {s : State} {m : MethodId} {args : Array Value} {below : List Frame} {meth : Method} {c : Code} {K : Nat} {r : Int} {F9 : zF} {B9 : zB} (X : zX D ca L aS vS A p s m args meth c prog_15_method_111_code 12 (Option.some Jvm.ClassFile.FieldType.int) "StaveHouseModel") {rec117 : Int → Int → Int → Int → Int → Int → zF → zB → zO} (hrec117 : ∀ {l9 : Int} {l8 : Int} {l7 : Int} {l6 : Int} {l5 : Int} {l4 : Int} {F : zF} {B : zB} {H : Heap} {locs : List Loc} {ls : Array Slot}, rec117 l9 l8 l7 l6 l5 l4 F B = some (r, F9, B9) → zH D ca ad lnM nM L F B A H → va_S A s.heap H locs → lv_has ls 12 [(9, .int (iI l9)), (8, .int (iI l8)), (7, .int (iI l7)), (6, .int (iI l6)), (5, .int (iI l5)), (4, va_rf (zrf ad 13 l4))] → W p l e ({ frames := 1, cells := 0, slots := 0, locals := 21 } : Room) s m args below meth c H locs 0 0 (MQ below (Q_M_x D ca ad L r F9 B9 A) args s 0 0 A) (F0 m 117 ls [])) {l9 : Int} {l8 : Int} {l7 : Int} {l6 : Int} {l5 : Int} {l4 : Int} {F : zF} {B : zB} {H : Heap} {locs : List Loc} {ls : Array Slot} (hf : f_M_x_157 rec117 K l9 l8 l7 l6 l5 l4 F B = some (r, F9, B9)) (hZ : zH D ca ad lnM nM L F B A H) (hS : va_S A s.heap H locs) (hl : lv_has ls 12 [(9, .int (iI l9)), (8, .int (iI l8)), (7, .int (iI l7)), (6, .int (iI l6)), (5, .int (iI l5)), (4, va_rf (zrf ad 13 l4))]) : W p l e ({ frames := 1, cells := 0, slots := 0, locals := 21 } : Room) s m args below meth c H locs 0 0 (MQ below (Q_M_x D ca ad L r F9 B9 A) args s 0 0 A) (F0 m 157 ls []) := by
  obtain ⟨hx, hb, hr, hml, hown, hts, hlk, hK, hA, hL, hX⟩ := id X
  replace hf : (rec117 (l9 + 1) l8 l7 l6 l5 l4 F B) = some (r, F9, B9) := hf
  refine lv_iinc (v := iI (l9 + 1)) (lv' := [(9, .int (iI (l9 + 1))), (8, .int (iI l8)), (7, .int (iI l7)), (6, .int (iI l6)), (5, .int (iI l5)), (4, va_rf (zrf ad 13 l4))]) hx hb d_15_111_157 hl (k := 0) rfl (iI_add _ 1) (by decide) rfl (fun ls hl => ?_)
  refine lv_goto (tgt := 117) hx hb (D_167 W_prog_15_method_111_code_160 0 rfl rfl rfl) (by decide) ?_
  exact hrec117 hf hZ hS (lv_sub hl [0, 1, 2, 3, 4, 5] rfl)

def f_M_x_117 (K : Nat) : Nat → Int → Int → Int → Int → Int → Int → zF → zB → zO
  | 0, _, _, _, _, _, _, _, _ => none
  | n + 1, l9, l8, l7, l6, l5, l4, F, B => if 0 ≤ l4 ∧ l4 < 3 then if 0 ≤ l9 ∧ l9 < 3200 then if 0 ≤ l5 ∧ l5 < 3200 then if r64 (B 13 l4 43 l9) then if r64 (B 13 l4 32 l5) then (if (zcmp (B 13 l4 43 l9) (B 13 l4 32 l5)) = 0 then if r64 (B 13 l4 44 l9) then if r64 (B 13 l4 33 l5) then (if (zcmp (B 13 l4 44 l9) (B 13 l4 33 l5)) = 0 then if 0 ≤ l7 ∧ l7 < 100 then zbind (f_M_ahead K l4 (B 13 l4 49 l7) F B) (fun r31 F31 B31 => f_M_x_199 K K l8 (r31 + (6 * ((l6 - (B31 13 l4 49 l7)) + 1))) l9 l8 l7 l4 F31 B31) else none else f_M_x_157 (f_M_x_117 K n) K l9 l8 l7 l6 l5 l4 F B) else none else none else f_M_x_157 (f_M_x_117 K n) K l9 l8 l7 l6 l5 l4 F B) else none else none else none else none else none
set_option maxHeartbeats 4000000 in
set_option maxRecDepth 100000 in
theorem b_M_x_117 {D : va_G} {ca : Nat → ClassId} {ad : Nat → Int → Nat → Nat} {L : List Nat} {aS vS : Nat → Nat} {A : Nat → Prop} {p : Program} {l : Launch} {e : Env} {s : State} {m : MethodId} {args : Array Value} {below : List Frame} {meth : Method} {c : Code} {K : Nat} {r : Int} {F9 : zF} {B9 : zB} (X : zX D ca L aS vS A p s m args meth c prog_15_method_111_code 12 (Option.some Jvm.ClassFile.FieldType.int) "StaveHouseModel") : ∀ {n : Nat} {l9 : Int} {l8 : Int} {l7 : Int} {l6 : Int} {l5 : Int} {l4 : Int} {F : zF} {B : zB} {H : Heap} {locs : List Loc} {ls : Array Slot}, f_M_x_117 K n l9 l8 l7 l6 l5 l4 F B = some (r, F9, B9) → zH D ca ad lnM nM L F B A H → va_S A s.heap H locs → lv_has ls 12 [(9, .int (iI l9)), (8, .int (iI l8)), (7, .int (iI l7)), (6, .int (iI l6)), (5, .int (iI l5)), (4, va_rf (zrf ad 13 l4))] → W p l e ({ frames := 1, cells := 0, slots := 0, locals := 21 } : Room) s m args below meth c H locs 0 0 (MQ below (Q_M_x D ca ad L r F9 B9 A) args s 0 0 A) (F0 m 117 ls []) := by
  obtain ⟨hx, hb, hr, hml, hown, hts, hlk, hK, hA, hL, hX⟩ := id X
  intro n
  induction n with
  | zero =>
    intros
    rename_i hf _ _ _
    cases hf
  | succ n ih =>
    intro l9 l8 l7 l6 l5 l4 F B H locs ls hf hZ hS hl
    replace hf : (if 0 ≤ l4 ∧ l4 < 3 then if 0 ≤ l9 ∧ l9 < 3200 then if 0 ≤ l5 ∧ l5 < 3200 then if r64 (B 13 l4 43 l9) then if r64 (B 13 l4 32 l5) then (if (zcmp (B 13 l4 43 l9) (B 13 l4 32 l5)) = 0 then if r64 (B 13 l4 44 l9) then if r64 (B 13 l4 33 l5) then (if (zcmp (B 13 l4 44 l9) (B 13 l4 33 l5)) = 0 then if 0 ≤ l7 ∧ l7 < 100 then zbind (f_M_ahead K l4 (B 13 l4 49 l7) F B) (fun r31 F31 B31 => f_M_x_199 K K l8 (r31 + (6 * ((l6 - (B31 13 l4 49 l7)) + 1))) l9 l8 l7 l4 F31 B31) else none else f_M_x_157 (f_M_x_117 K n) K l9 l8 l7 l6 l5 l4 F B) else none else none else f_M_x_157 (f_M_x_117 K n) K l9 l8 l7 l6 l5 l4 F B) else none else none else none else none else none) = some (r, F9, B9) := hf
    refine zaload hx hb (D_25 W_prog_15_method_111_code_96 21 rfl rfl) (lv_at hl 5 rfl) ?_
    obtain ⟨g21, hf⟩ := gif hf
    refine zunrf g21.1 ?_
    refine zget (ci := 13) (C := RX13) (T := TX13) (v := .ref (ad 13 l4 (43 + 1))) (k := 43) hx hb hts inW_13 hown hK hZ g21.1 g21.2 rfl (by decide) k_9_204 rfl (D_180 W_prog_15_method_111_code_96 23 rfl rfl rfl) ?_
    refine lv_iload hx hb (D_21 W_prog_15_method_111_code_96 26 rfl rfl) (lv_at hl 0 rfl) ?_
    obtain ⟨g22, hf⟩ := gif hf
    refine zlald (ci := 13) (k := 43) hx hb hK rfl hZ g21.1 g21.2 rfl (Nat.le_of_ble_eq_true rfl) g22.1 g22.2 (D_47 W_prog_15_method_111_code_96 28 rfl rfl) ?_
    refine zaload hx hb (D_25 W_prog_15_method_111_code_96 29 rfl rfl) (lv_at hl 5 rfl) ?_
    refine zunrf g21.1 ?_
    refine zget (ci := 13) (C := RX13) (T := TX13) (v := .ref (ad 13 l4 (32 + 1))) (k := 32) hx hb hts inW_13 hown hK hZ g21.1 g21.2 rfl (by decide) k_9_182 rfl (D_180 W_prog_15_method_111_code_96 31 rfl rfl rfl) ?_
    refine lv_iload hx hb (D_21 W_prog_15_method_111_code_128 2 rfl rfl) (lv_at hl 4 rfl) ?_
    obtain ⟨g23, hf⟩ := gif hf
    refine zlald (ci := 13) (k := 32) hx hb hK rfl hZ g21.1 g21.2 rfl (Nat.le_of_ble_eq_true rfl) g23.1 g23.2 (D_47 W_prog_15_method_111_code_128 4 rfl rfl) ?_
    obtain ⟨g24, hf⟩ := gif hf
    obtain ⟨g25, hf⟩ := gif hf
    refine zcmp_r hx hb g24 g25 (D_148 W_prog_15_method_111_code_128 5 rfl rfl) ?_
    refine z0ne (tgt := 157) hx hb zcmp_32 (D_154 W_prog_15_method_111_code_128 6 rfl rfl rfl) (by decide) (fun h26 => ?_) (fun h26 => ?_)
    · replace hf := gneg hf h26
      exact b_M_x_157 X ih hf hZ hS (lv_sub hl [0, 1, 2, 3, 4, 5] rfl)
    · replace hf := gpos hf h26
      refine zaload hx hb (D_25 W_prog_15_method_111_code_128 9 rfl rfl) (lv_at hl 5 rfl) ?_
      refine zunrf g21.1 ?_
      refine zget (ci := 13) (C := RX13) (T := TX13) (v := .ref (ad 13 l4 (44 + 1))) (k := 44) hx hb hts inW_13 hown hK hZ g21.1 g21.2 rfl (by decide) k_9_206 rfl (D_180 W_prog_15_method_111_code_128 11 rfl rfl rfl) ?_
      refine lv_iload hx hb (D_21 W_prog_15_method_111_code_128 14 rfl rfl) (lv_at hl 0 rfl) ?_
      refine zlald (ci := 13) (k := 44) hx hb hK rfl hZ g21.1 g21.2 rfl (Nat.le_of_ble_eq_true rfl) g22.1 g22.2 (D_47 W_prog_15_method_111_code_128 16 rfl rfl) ?_
      refine zaload hx hb (D_25 W_prog_15_method_111_code_128 17 rfl rfl) (lv_at hl 5 rfl) ?_
      refine zunrf g21.1 ?_
      refine zget (ci := 13) (C := RX13) (T := TX13) (v := .ref (ad 13 l4 (33 + 1))) (k := 33) hx hb hts inW_13 hown hK hZ g21.1 g21.2 rfl (by decide) k_9_184 rfl (D_180 W_prog_15_method_111_code_128 19 rfl rfl rfl) ?_
      refine lv_iload hx hb (D_21 W_prog_15_method_111_code_128 22 rfl rfl) (lv_at hl 4 rfl) ?_
      refine zlald (ci := 13) (k := 33) hx hb hK rfl hZ g21.1 g21.2 rfl (Nat.le_of_ble_eq_true rfl) g23.1 g23.2 (D_47 W_prog_15_method_111_code_128 24 rfl rfl) ?_
      obtain ⟨g27, hf⟩ := gif hf
      obtain ⟨g28, hf⟩ := gif hf
      refine zcmp_r hx hb g27 g28 (D_148 W_prog_15_method_111_code_128 25 rfl rfl) ?_
      refine z0eq (tgt := 163) hx hb zcmp_32 (D_153 W_prog_15_method_111_code_128 26 rfl rfl rfl) (by decide) (fun h29 => ?_) (fun h29 => ?_)
      · replace hf := gpos hf h29
        refine zaload hx hb (D_25 W_prog_15_method_111_code_160 3 rfl rfl) (lv_at hl 5 rfl) ?_
        refine zaload hx hb (D_25 W_prog_15_method_111_code_160 5 rfl rfl) (lv_at hl 5 rfl) ?_
        refine zunrf g21.1 ?_
        refine zget (ci := 13) (C := RX13) (T := TX13) (v := .ref (ad 13 l4 (49 + 1))) (k := 49) hx hb hts inW_13 hown hK hZ g21.1 g21.2 rfl (by decide) k_9_214 rfl (D_180 W_prog_15_method_111_code_160 7 rfl rfl rfl) ?_
        refine lv_iload hx hb (D_21 W_prog_15_method_111_code_160 10 rfl rfl) (lv_at hl 2 rfl) ?_
        obtain ⟨g30, hf⟩ := gif hf
        refine zald (ci := 13) (k := 49) hx hb hK rfl hZ g21.1 g21.2 rfl (Nat.le_of_ble_eq_true rfl) g30.1 g30.2 (D_46 W_prog_15_method_111_code_160 12 rfl rfl) ?_
        refine W.eq (g2 := F0 m 173 ls [.int (iI (B 13 l4 49 l7)), .ref (ad 13 l4 0)]) (by rw [zrf_pos (ad := ad) (t := 13) g21.1]; try rfl) ?_
        obtain ⟨r31, F31, B31, hc31, hf⟩ := gbind hf
        refine va_calli (va_runS (As := [.ref (ad 13 l4 0), .int (iI (B 13 l4 49 l7))]) (rest := []) ⟨hx, hb, hml, hown, hts⟩ (c_M_ahead (l := l) hc31) (va_cwS 2 hts (gdS k_12_102 k_12_103 k_1_9 k_12_104) rfl rfl rfl (by decide +kernel) ⟨Nat.le_of_ble_eq_true rfl, Nat.le_of_ble_eq_true rfl⟩) (zPS X hZ hS [.ref (ad 13 l4 0), .int (iI (B 13 l4 49 l7))]) rfl rfl hl.1 rfl (lv_room (Nat.le_of_ble_eq_true rfl)) (D_184 W_prog_15_method_111_code_160 13 rfl rfl rfl) ⟨Nat.le_of_ble_eq_true rfl, Nat.le_of_ble_eq_true rfl⟩) hS (fun q _ h => zAin X hS q h) (zAin X hS) (fun p31 u31 t31 H31 locs31 ht31 hv31 hw31 hB31 hz31 hk31 hS31 => ?_)
        have hZ31 := zBack X ht31 hB31
        subst hw31
        refine lv_bipush (v := iI 6) hx hb (D_16 W_prog_15_method_111_code_160 16 rfl rfl rfl) (by decide) ?_
        refine lv_iload hx hb (D_21 W_prog_15_method_111_code_160 18 rfl rfl) (lv_at hl 3 rfl) ?_
        refine zaload hx hb (D_25 W_prog_15_method_111_code_160 20 rfl rfl) (lv_at hl 5 rfl) ?_
        refine zunrf g21.1 ?_
        refine zget (ci := 13) (C := RX13) (T := TX13) (v := .ref (ad 13 l4 (49 + 1))) (k := 49) hx hb hts inW_13 hown hK hZ31 g21.1 g21.2 rfl (by decide) k_9_214 rfl (D_180 W_prog_15_method_111_code_160 22 rfl rfl rfl) ?_
        refine lv_iload hx hb (D_21 W_prog_15_method_111_code_160 25 rfl rfl) (lv_at hl 2 rfl) ?_
        refine zald (ci := 13) (k := 49) hx hb hK rfl hZ31 g21.1 g21.2 rfl (Nat.le_of_ble_eq_true rfl) g30.1 g30.2 (D_46 W_prog_15_method_111_code_160 27 rfl rfl) ?_
        refine zsub hx hb (D_100 W_prog_15_method_111_code_160 28 rfl rfl) ?_
        refine lv_iconst (v := iI 1) hx hb (D_4 W_prog_15_method_111_code_160 29 rfl rfl) rfl ?_
        refine zadd hx hb (D_96 W_prog_15_method_111_code_160 30 rfl rfl) ?_
        refine zmul hx hb (D_104 W_prog_15_method_111_code_160 31 rfl rfl) ?_
        refine zadd hx hb (D_96 W_prog_15_method_111_code_192 0 rfl rfl) ?_
        refine lv_istore (lv' := [(10, .int (iI (r31 + (6 * ((l6 - (B31 13 l4 49 l7)) + 1))))), (9, .int (iI l9)), (8, .int (iI l8)), (7, .int (iI l7)), (6, .int (iI l6)), (5, .int (iI l5)), (4, va_rf (zrf ad 13 l4))]) hx hb (D_54 W_prog_15_method_111_code_192 1 rfl rfl) hl (by decide) rfl (fun ls hl => ?_)
        refine lv_iload hx hb (D_21 W_prog_15_method_111_code_192 3 rfl rfl) (lv_at hl 2 rfl) ?_
        refine lv_istore (lv' := [(11, .int (iI l8)), (10, .int (iI (r31 + (6 * ((l6 - (B31 13 l4 49 l7)) + 1))))), (9, .int (iI l9)), (8, .int (iI l8)), (7, .int (iI l7)), (6, .int (iI l6)), (5, .int (iI l5)), (4, va_rf (zrf ad 13 l4))]) hx hb (D_54 W_prog_15_method_111_code_192 5 rfl rfl) hl (by decide) rfl (fun ls hl => ?_)
        exact b_M_x_199 X hf hZ31 hS31 (lv_sub hl [0, 1, 2, 3, 4, 7] rfl)
      · replace hf := gneg hf h29
        exact b_M_x_157 X ih hf hZ hS (lv_sub hl [0, 1, 2, 3, 4, 5] rfl)

def f_M_x_63 (K : Nat) : Nat → Int → Int → Int → Int → zF → zB → zO
  | 0, _, _, _, _, _, _ => none
  | n + 1, l7, l6, l5, l4, F, B => if 0 ≤ l4 ∧ l4 < 3 then if 0 ≤ l7 ∧ l7 < 100 then if r32 ((B 13 l4 49 l7) + (B 13 l4 50 l7)) then if r32 l6 then (if l6 < ((B 13 l4 49 l7) + (B 13 l4 50 l7)) then if 0 ≤ (B 13 l4 49 l7) ∧ (B 13 l4 49 l7) < 101 then if 0 ≤ l6 ∧ l6 < 101 then f_M_x_117 K K (B 13 l4 42 l6) (B 13 l4 42 (B 13 l4 49 l7)) l7 l6 l5 l4 F B else none else none else f_M_x_63 K n (l7 + 1) l6 l5 l4 F B) else none else none else none else none
set_option maxHeartbeats 4000000 in
set_option maxRecDepth 100000 in
theorem b_M_x_63 {D : va_G} {ca : Nat → ClassId} {ad : Nat → Int → Nat → Nat} {L : List Nat} {aS vS : Nat → Nat} {A : Nat → Prop} {p : Program} {l : Launch} {e : Env} {s : State} {m : MethodId} {args : Array Value} {below : List Frame} {meth : Method} {c : Code} {K : Nat} {r : Int} {F9 : zF} {B9 : zB} (X : zX D ca L aS vS A p s m args meth c prog_15_method_111_code 12 (Option.some Jvm.ClassFile.FieldType.int) "StaveHouseModel") : ∀ {n : Nat} {l7 : Int} {l6 : Int} {l5 : Int} {l4 : Int} {F : zF} {B : zB} {H : Heap} {locs : List Loc} {ls : Array Slot}, f_M_x_63 K n l7 l6 l5 l4 F B = some (r, F9, B9) → zH D ca ad lnM nM L F B A H → va_S A s.heap H locs → lv_has ls 12 [(7, .int (iI l7)), (6, .int (iI l6)), (5, .int (iI l5)), (4, va_rf (zrf ad 13 l4))] → W p l e ({ frames := 1, cells := 0, slots := 0, locals := 21 } : Room) s m args below meth c H locs 0 0 (MQ below (Q_M_x D ca ad L r F9 B9 A) args s 0 0 A) (F0 m 63 ls []) := by
  obtain ⟨hx, hb, hr, hml, hown, hts, hlk, hK, hA, hL, hX⟩ := id X
  intro n
  induction n with
  | zero =>
    intros
    rename_i hf _ _ _
    cases hf
  | succ n ih =>
    intro l7 l6 l5 l4 F B H locs ls hf hZ hS hl
    replace hf : (if 0 ≤ l4 ∧ l4 < 3 then if 0 ≤ l7 ∧ l7 < 100 then if r32 ((B 13 l4 49 l7) + (B 13 l4 50 l7)) then if r32 l6 then (if l6 < ((B 13 l4 49 l7) + (B 13 l4 50 l7)) then if 0 ≤ (B 13 l4 49 l7) ∧ (B 13 l4 49 l7) < 101 then if 0 ≤ l6 ∧ l6 < 101 then f_M_x_117 K K (B 13 l4 42 l6) (B 13 l4 42 (B 13 l4 49 l7)) l7 l6 l5 l4 F B else none else none else f_M_x_63 K n (l7 + 1) l6 l5 l4 F B) else none else none else none else none) = some (r, F9, B9) := hf
    refine zaload hx hb (D_25 W_prog_15_method_111_code_32 31 rfl rfl) (lv_at hl 3 rfl) ?_
    obtain ⟨g14, hf⟩ := gif hf
    refine zunrf g14.1 ?_
    refine zget (ci := 13) (C := RX13) (T := TX13) (v := .ref (ad 13 l4 (49 + 1))) (k := 49) hx hb hts inW_13 hown hK hZ g14.1 g14.2 rfl (by decide) k_9_214 rfl (D_180 W_prog_15_method_111_code_64 1 rfl rfl rfl) ?_
    refine lv_iload hx hb (D_21 W_prog_15_method_111_code_64 4 rfl rfl) (lv_at hl 0 rfl) ?_
    obtain ⟨g15, hf⟩ := gif hf
    refine zald (ci := 13) (k := 49) hx hb hK rfl hZ g14.1 g14.2 rfl (Nat.le_of_ble_eq_true rfl) g15.1 g15.2 (D_46 W_prog_15_method_111_code_64 6 rfl rfl) ?_
    refine zaload hx hb (D_25 W_prog_15_method_111_code_64 7 rfl rfl) (lv_at hl 3 rfl) ?_
    refine zunrf g14.1 ?_
    refine zget (ci := 13) (C := RX13) (T := TX13) (v := .ref (ad 13 l4 (50 + 1))) (k := 50) hx hb hts inW_13 hown hK hZ g14.1 g14.2 rfl (by decide) k_9_216 rfl (D_180 W_prog_15_method_111_code_64 9 rfl rfl rfl) ?_
    refine lv_iload hx hb (D_21 W_prog_15_method_111_code_64 12 rfl rfl) (lv_at hl 0 rfl) ?_
    refine zald (ci := 13) (k := 50) hx hb hK rfl hZ g14.1 g14.2 rfl (Nat.le_of_ble_eq_true rfl) g15.1 g15.2 (D_46 W_prog_15_method_111_code_64 14 rfl rfl) ?_
    refine zadd hx hb (D_96 W_prog_15_method_111_code_64 15 rfl rfl) ?_
    refine lv_iload hx hb (D_21 W_prog_15_method_111_code_64 16 rfl rfl) (lv_at hl 1 rfl) ?_
    obtain ⟨g16, hf⟩ := gif hf
    obtain ⟨g17, hf⟩ := gif hf
    refine zgt (tgt := 91) hx hb g16 g17 (D_163 W_prog_15_method_111_code_64 18 rfl rfl rfl) (by decide) (fun h18 => ?_) (fun h18 => ?_)
    · replace hf := gpos hf h18
      refine zaload hx hb (D_25 W_prog_15_method_111_code_64 27 rfl rfl) (lv_at hl 3 rfl) ?_
      refine zunrf g14.1 ?_
      refine zget (ci := 13) (C := RX13) (T := TX13) (v := .ref (ad 13 l4 (42 + 1))) (k := 42) hx hb hts inW_13 hown hK hZ g14.1 g14.2 rfl (by decide) k_9_202 rfl (D_180 W_prog_15_method_111_code_64 29 rfl rfl rfl) ?_
      refine zaload hx hb (D_25 W_prog_15_method_111_code_96 0 rfl rfl) (lv_at hl 3 rfl) ?_
      refine zunrf g14.1 ?_
      refine zget (ci := 13) (C := RX13) (T := TX13) (v := .ref (ad 13 l4 (49 + 1))) (k := 49) hx hb hts inW_13 hown hK hZ g14.1 g14.2 rfl (by decide) k_9_214 rfl (D_180 W_prog_15_method_111_code_96 2 rfl rfl rfl) ?_
      refine lv_iload hx hb (D_21 W_prog_15_method_111_code_96 5 rfl rfl) (lv_at hl 0 rfl) ?_
      refine zald (ci := 13) (k := 49) hx hb hK rfl hZ g14.1 g14.2 rfl (Nat.le_of_ble_eq_true rfl) g15.1 g15.2 (D_46 W_prog_15_method_111_code_96 7 rfl rfl) ?_
      obtain ⟨g19, hf⟩ := gif hf
      refine zald (ci := 13) (k := 42) hx hb hK rfl hZ g14.1 g14.2 rfl (Nat.le_of_ble_eq_true rfl) g19.1 g19.2 (D_46 W_prog_15_method_111_code_96 8 rfl rfl) ?_
      refine lv_istore (lv' := [(8, .int (iI (B 13 l4 42 (B 13 l4 49 l7)))), (7, .int (iI l7)), (6, .int (iI l6)), (5, .int (iI l5)), (4, va_rf (zrf ad 13 l4))]) hx hb (D_54 W_prog_15_method_111_code_96 9 rfl rfl) hl (by decide) rfl (fun ls hl => ?_)
      refine zaload hx hb (D_25 W_prog_15_method_111_code_96 11 rfl rfl) (lv_at hl 4 rfl) ?_
      refine zunrf g14.1 ?_
      refine zget (ci := 13) (C := RX13) (T := TX13) (v := .ref (ad 13 l4 (42 + 1))) (k := 42) hx hb hts inW_13 hown hK hZ g14.1 g14.2 rfl (by decide) k_9_202 rfl (D_180 W_prog_15_method_111_code_96 13 rfl rfl rfl) ?_
      refine lv_iload hx hb (D_21 W_prog_15_method_111_code_96 16 rfl rfl) (lv_at hl 2 rfl) ?_
      obtain ⟨g20, hf⟩ := gif hf
      refine zald (ci := 13) (k := 42) hx hb hK rfl hZ g14.1 g14.2 rfl (Nat.le_of_ble_eq_true rfl) g20.1 g20.2 (D_46 W_prog_15_method_111_code_96 18 rfl rfl) ?_
      refine lv_istore (lv' := [(9, .int (iI (B 13 l4 42 l6))), (8, .int (iI (B 13 l4 42 (B 13 l4 49 l7)))), (7, .int (iI l7)), (6, .int (iI l6)), (5, .int (iI l5)), (4, va_rf (zrf ad 13 l4))]) hx hb (D_54 W_prog_15_method_111_code_96 19 rfl rfl) hl (by decide) rfl (fun ls hl => ?_)
      exact b_M_x_117 X hf hZ hS (lv_sub hl [0, 1, 2, 3, 4, 5] rfl)
    · replace hf := gneg hf h18
      refine lv_iinc (v := iI (l7 + 1)) (lv' := [(7, .int (iI (l7 + 1))), (6, .int (iI l6)), (5, .int (iI l5)), (4, va_rf (zrf ad 13 l4))]) hx hb d_15_111_85 hl (k := 0) rfl (iI_add _ 1) (by decide) rfl (fun ls hl => ?_)
      refine lv_goto (tgt := 63) hx hb (D_167 W_prog_15_method_111_code_64 24 rfl rfl rfl) (by decide) ?_
      exact ih hf hZ hS (lv_sub hl [0, 1, 2, 3] rfl)

def f_M_x_39 (K : Nat)  (F : zF) (B : zB) : zO := some ((-1), F, B)
set_option maxHeartbeats 4000000 in
set_option maxRecDepth 100000 in
theorem b_M_x_39 {D : va_G} {ca : Nat → ClassId} {ad : Nat → Int → Nat → Nat} {L : List Nat} {aS vS : Nat → Nat} {A : Nat → Prop} {p : Program} {l : Launch} {e : Env} {s : State} {m : MethodId} {args : Array Value} {below : List Frame} {meth : Method} {c : Code} {K : Nat} {r : Int} {F9 : zF} {B9 : zB} (X : zX D ca L aS vS A p s m args meth c prog_15_method_111_code 12 (Option.some Jvm.ClassFile.FieldType.int) "StaveHouseModel")  {F : zF} {B : zB} {H : Heap} {locs : List Loc} {ls : Array Slot} (hf : f_M_x_39 K  F B = some (r, F9, B9)) (hZ : zH D ca ad lnM nM L F B A H) (hS : va_S A s.heap H locs) (hl : lv_has ls 12 []) : W p l e ({ frames := 1, cells := 0, slots := 0, locals := 21 } : Room) s m args below meth c H locs 0 0 (MQ below (Q_M_x D ca ad L r F9 B9 A) args s 0 0 A) (F0 m 39 ls []) := by
  obtain ⟨hx, hb, hr, hml, hown, hts, hlk, hK, hA, hL, hX⟩ := id X
  replace hf : (some ((-1), F, B)) = some (r, F9, B9) := hf
  refine lv_iconst (v := iI (-1)) hx hb (D_2 W_prog_15_method_111_code_32 7 rfl rfl) rfl ?_
  cases hf
  exact W.iret hx hb hr (fun t ht hW => ⟨⟨_, (), rfl, rfl, by rw [ht]; exact hZ, va_K.moved hW.alike hK⟩, hS.F ht⟩) hS.2.2 (D_172 W_prog_15_method_111_code_32 8 rfl rfl) hlk

def f_M_x (K : Nat) (l1 : Int) (l2 : Int) (l3 : Int) (F : zF) (B : zB) : zO := zbind (f_M_piece K l1 F B) (fun r1 F1 B1 => zbind (f_M_isVoice K r1 l2 F1 B1) (fun r2 F2 B2 => if r32 r2 then (if r2 = 0 then f_M_x_39 K F2 B2 else if r32 l3 then (if l3 < 0 then f_M_x_39 K F2 B2 else if 0 ≤ r1 ∧ r1 < 3 then if 0 ≤ l2 ∧ l2 < 4 then if r32 (B2 13 r1 13 l2) then (if (B2 13 r1 13 l2) ≤ l3 then f_M_x_39 K F2 B2 else if r32 (F2 13 r1 48) then (if (F2 13 r1 48) = 0 then f_M_x_39 K F2 B2 else if 0 ≤ ((800 * l2) + l3) ∧ ((800 * l2) + l3) < 3200 then f_M_x_63 K K 0 (B2 13 r1 31 ((800 * l2) + l3)) ((800 * l2) + l3) r1 F2 B2 else none) else none) else none else none else none) else none) else none))
set_option maxHeartbeats 4000000 in
set_option maxRecDepth 100000 in
theorem c_M_x {l : Launch} {D : va_G} {ca : Nat → ClassId} {ad : Nat → Int → Nat → Nat} {L : List Nat} {aS vS : Nat → Nat} {sz K : Nat}  {l1 : Int} {l2 : Int} {l3 : Int} {F F9 : zF} {B B9 : zB} {r : Int} (hf : f_M_x K l1 l2 l3 F B = some (r, F9, B9)) : Met l ({ cls := "StaveHouseModel", name := "x", desc := "(III)I" } : Jvm.MethodName) (Cond.code ({ cls := "StaveHouseModel", name := "x", desc := "(III)I" } : Jvm.MethodName) prog_15_method_111_code 12 (Option.some Jvm.ClassFile.FieldType.int) :: wAll) ({ frames := 1, cells := 0, slots := 0, locals := 21 } : Room) (va_Pc [.ref (ad 14 0 0), .int (iI l1), .int (iI l2), .int (iI l3)] (zPre D ca ad lnM nM L aS vS F B sz)) (Q_M_x D ca ad L r F9 B9 (zA L sz)) 0 0 (zA L sz) := by
  refine zMet (Qc := Q_M_x D ca ad L r F9 B9) (lv := [(0, .ref (ad 14 0 0)), (1, .int (iI l1)), (2, .int (iI l2)), (3, .int (iI l3))]) (by decide) (Nat.le_of_ble_eq_true rfl) rfl (fun A p e s m below meth c ls X hZ hS hl => ?_)
  obtain ⟨hx, hb, hr, hml, hown, hts, hlk, hK, hA, hL, hX⟩ := id X
  replace hf : (zbind (f_M_piece K l1 F B) (fun r1 F1 B1 => zbind (f_M_isVoice K r1 l2 F1 B1) (fun r2 F2 B2 => if r32 r2 then (if r2 = 0 then f_M_x_39 K F2 B2 else if r32 l3 then (if l3 < 0 then f_M_x_39 K F2 B2 else if 0 ≤ r1 ∧ r1 < 3 then if 0 ≤ l2 ∧ l2 < 4 then if r32 (B2 13 r1 13 l2) then (if (B2 13 r1 13 l2) ≤ l3 then f_M_x_39 K F2 B2 else if r32 (F2 13 r1 48) then (if (F2 13 r1 48) = 0 then f_M_x_39 K F2 B2 else if 0 ≤ ((800 * l2) + l3) ∧ ((800 * l2) + l3) < 3200 then f_M_x_63 K K 0 (B2 13 r1 31 ((800 * l2) + l3)) ((800 * l2) + l3) r1 F2 B2 else none) else none) else none else none else none) else none) else none))) = some (r, F9, B9) := hf
  refine lv_aload_n hx hb (D_42 W_prog_15_method_111_code_0 0 rfl rfl) rfl (lv_at hl 0 rfl) ?_
  refine lv_iload_n hx hb (D_27 W_prog_15_method_111_code_0 1 rfl rfl) rfl (lv_at hl 1 rfl) ?_
  obtain ⟨r1, F1, B1, hc1, hf⟩ := gbind hf
  refine va_callq (va_runV (As := [.int (iI l1)]) (rest := []) ⟨hx, hb, hml, hown, hts⟩ (c_M_piece (l := l) hc1) (cwV 1 hts (gdV k_12_92 k_12_94 ks_131 k_1_9 k_12_95) rfl rfl rfl (by decide +kernel) ⟨Nat.le_of_ble_eq_true rfl, Nat.le_of_ble_eq_true rfl⟩) (zPV X hZ hS (ci := 14) (by decide) (by decide) (r := (RX14, TX14, 107)) rfl [.int (iI l1)]) rfl rfl hl.1 rfl (lv_room (Nat.le_of_ble_eq_true rfl)) (D_182 W_prog_15_method_111_code_0 2 rfl rfl rfl) ⟨Nat.le_of_ble_eq_true rfl, Nat.le_of_ble_eq_true rfl⟩) hS (fun q _ h => zAin X hS q h) (zAin X hS) (fun p1 u1 t1 H1 locs1 ht1 hv1 hw1 hB1 hz1 hk1 hS1 => ?_)
  have hZ1 := zBack X ht1 hB1
  subst hw1
  refine zastore (lv' := [(0, .ref (ad 14 0 0)), (1, .int (iI l1)), (2, .int (iI l2)), (3, .int (iI l3))]) hx hb (D_58 W_prog_15_method_111_code_0 5 rfl rfl) hl (by decide) (fun _ _ => rfl) (fun ls hl => ?_)
  refine zaload hx hb (D_25 W_prog_15_method_111_code_0 7 rfl rfl) (lv_at hl 0 rfl) ?_
  refine lv_iload_n hx hb (D_28 W_prog_15_method_111_code_0 9 rfl rfl) rfl (lv_at hl 3 rfl) ?_
  obtain ⟨r2, F2, B2, hc2, hf⟩ := gbind hf
  refine va_calli (va_runS (As := [va_rf (zrf ad 13 r1), .int (iI l2)]) (rest := []) ⟨hx, hb, hml, hown, hts⟩ (c_M_isVoice (l := l) hc2) (va_cwS 2 hts (gdS k_12_118 k_12_119 k_1_9 k_12_120) rfl rfl rfl (by decide +kernel) ⟨Nat.le_of_ble_eq_true rfl, Nat.le_of_ble_eq_true rfl⟩) (zPS X hZ1 hS1 [va_rf (zrf ad 13 r1), .int (iI l2)]) rfl rfl hl.1 rfl (lv_room (Nat.le_of_ble_eq_true rfl)) (D_184 W_prog_15_method_111_code_0 10 rfl rfl rfl) ⟨Nat.le_of_ble_eq_true rfl, Nat.le_of_ble_eq_true rfl⟩) hS1 (fun q _ h => zAin X hS1 q h) (zAin X hS1) (fun p2 u2 t2 H2 locs2 ht2 hv2 hw2 hB2 hz2 hk2 hS2 => ?_)
  have hZ2 := zBack X ht2 hB2
  subst hw2
  obtain ⟨g3, hf⟩ := gif hf
  refine z0eq (tgt := 39) hx hb g3 (D_153 W_prog_15_method_111_code_0 13 rfl rfl rfl) (by decide) (fun h4 => ?_) (fun h4 => ?_)
  · replace hf := gpos hf h4
    exact b_M_x_39 X hf hZ2 hS2 (lv_sub hl [] rfl)
  · replace hf := gneg hf h4
    refine lv_iload_n hx hb (D_29 W_prog_15_method_111_code_0 16 rfl rfl) rfl (lv_at hl 4 rfl) ?_
    obtain ⟨g5, hf⟩ := gif hf
    refine z0lt (tgt := 39) hx hb g5 (D_155 W_prog_15_method_111_code_0 17 rfl rfl rfl) (by decide) (fun h6 => ?_) (fun h6 => ?_)
    · replace hf := gpos hf h6
      exact b_M_x_39 X hf hZ2 hS2 (lv_sub hl [] rfl)
    · replace hf := gneg hf h6
      refine lv_iload_n hx hb (D_29 W_prog_15_method_111_code_0 20 rfl rfl) rfl (lv_at hl 4 rfl) ?_
      refine zaload hx hb (D_25 W_prog_15_method_111_code_0 21 rfl rfl) (lv_at hl 0 rfl) ?_
      obtain ⟨g7, hf⟩ := gif hf
      refine zunrf g7.1 ?_
      refine zget (ci := 13) (C := RX13) (T := TX13) (v := .ref (ad 13 r1 (13 + 1))) (k := 13) hx hb hts inW_13 hown hK hZ2 g7.1 g7.2 rfl (by decide) k_9_144 rfl (D_180 W_prog_15_method_111_code_0 23 rfl rfl rfl) ?_
      refine lv_iload_n hx hb (D_28 W_prog_15_method_111_code_0 26 rfl rfl) rfl (lv_at hl 3 rfl) ?_
      obtain ⟨g8, hf⟩ := gif hf
      refine zald (ci := 13) (k := 13) hx hb hK rfl hZ2 g7.1 g7.2 rfl (Nat.le_of_ble_eq_true rfl) g8.1 g8.2 (D_46 W_prog_15_method_111_code_0 27 rfl rfl) ?_
      obtain ⟨g9, hf⟩ := gif hf
      refine zge (tgt := 39) hx hb g5 g9 (D_162 W_prog_15_method_111_code_0 28 rfl rfl rfl) (by decide) (fun h10 => ?_) (fun h10 => ?_)
      · replace hf := gpos hf h10
        exact b_M_x_39 X hf hZ2 hS2 (lv_sub hl [] rfl)
      · replace hf := gneg hf h10
        refine zaload hx hb (D_25 W_prog_15_method_111_code_0 31 rfl rfl) (lv_at hl 0 rfl) ?_
        refine zunrf g7.1 ?_
        refine zget (ci := 13) (C := RX13) (T := TX13) (v := .int (iI (F2 13 r1 48))) (k := 48) hx hb hts inW_13 hown hK hZ2 g7.1 g7.2 rfl (by decide) k_9_212 rfl (D_180 W_prog_15_method_111_code_32 1 rfl rfl rfl) ?_
        obtain ⟨g11, hf⟩ := gif hf
        refine z0ne (tgt := 41) hx hb g11 (D_154 W_prog_15_method_111_code_32 4 rfl rfl rfl) (by decide) (fun h12 => ?_) (fun h12 => ?_)
        · replace hf := gneg hf h12
          refine lv_sipush (v := iI 800) hx hb (D_17 W_prog_15_method_111_code_32 9 rfl rfl rfl) (by decide) ?_
          refine lv_iload_n hx hb (D_28 W_prog_15_method_111_code_32 12 rfl rfl) rfl (lv_at hl 3 rfl) ?_
          refine zmul hx hb (D_104 W_prog_15_method_111_code_32 13 rfl rfl) ?_
          refine lv_iload_n hx hb (D_29 W_prog_15_method_111_code_32 14 rfl rfl) rfl (lv_at hl 4 rfl) ?_
          refine zadd hx hb (D_96 W_prog_15_method_111_code_32 15 rfl rfl) ?_
          refine lv_istore (lv' := [(5, .int (iI ((800 * l2) + l3))), (4, va_rf (zrf ad 13 r1)), (0, .ref (ad 14 0 0)), (1, .int (iI l1)), (2, .int (iI l2)), (3, .int (iI l3))]) hx hb (D_54 W_prog_15_method_111_code_32 16 rfl rfl) hl (by decide) (by cases zrf ad 13 r1 <;> rfl) (fun ls hl => ?_)
          refine zaload hx hb (D_25 W_prog_15_method_111_code_32 18 rfl rfl) (lv_at hl 1 rfl) ?_
          refine zunrf g7.1 ?_
          refine zget (ci := 13) (C := RX13) (T := TX13) (v := .ref (ad 13 r1 (31 + 1))) (k := 31) hx hb hts inW_13 hown hK hZ2 g7.1 g7.2 rfl (by decide) k_9_180 rfl (D_180 W_prog_15_method_111_code_32 20 rfl rfl rfl) ?_
          refine lv_iload hx hb (D_21 W_prog_15_method_111_code_32 23 rfl rfl) (lv_at hl 0 rfl) ?_
          obtain ⟨g13, hf⟩ := gif hf
          refine zald (ci := 13) (k := 31) hx hb hK rfl hZ2 g7.1 g7.2 rfl (Nat.le_of_ble_eq_true rfl) g13.1 g13.2 (D_46 W_prog_15_method_111_code_32 25 rfl rfl) ?_
          refine lv_istore (lv' := [(6, .int (iI (B2 13 r1 31 ((800 * l2) + l3)))), (5, .int (iI ((800 * l2) + l3))), (4, va_rf (zrf ad 13 r1)), (0, .ref (ad 14 0 0)), (1, .int (iI l1)), (2, .int (iI l2)), (3, .int (iI l3))]) hx hb (D_54 W_prog_15_method_111_code_32 26 rfl rfl) hl (by decide) rfl (fun ls hl => ?_)
          refine lv_iconst (v := iI 0) hx hb (D_3 W_prog_15_method_111_code_32 28 rfl rfl) rfl ?_
          refine lv_istore (lv' := [(7, .int (iI 0)), (6, .int (iI (B2 13 r1 31 ((800 * l2) + l3)))), (5, .int (iI ((800 * l2) + l3))), (4, va_rf (zrf ad 13 r1)), (0, .ref (ad 14 0 0)), (1, .int (iI l1)), (2, .int (iI l2)), (3, .int (iI l3))]) hx hb (D_54 W_prog_15_method_111_code_32 29 rfl rfl) hl (by decide) rfl (fun ls hl => ?_)
          exact b_M_x_63 X hf hZ2 hS2 (lv_sub hl [0, 1, 2, 3] rfl)
        · replace hf := gpos hf h12
          exact b_M_x_39 X hf hZ2 hS2 (lv_sub hl [] rfl)

abbrev Q_M_ties (D : va_G) (ca : Nat → ClassId) (ad : Nat → Int → Nat → Nat) (L : List Nat) (r : Int) (F : zF) (B : zB) (A : Nat → Prop) : Array Value → State → Outcome → State → Prop := va_Qi (S := Unit) (fun p _ => p = iI r) (fun _ => zPo D ca ad lnM nM L F B A) A
def f_M_ties_38 (K : Nat) (s0 : Int) (F : zF) (B : zB) : zO := if (s0 = 0 ∨ s0 = 1) then some (s0, F, B) else none
set_option maxHeartbeats 4000000 in
set_option maxRecDepth 100000 in
theorem b_M_ties_38 {D : va_G} {ca : Nat → ClassId} {ad : Nat → Int → Nat → Nat} {L : List Nat} {aS vS : Nat → Nat} {A : Nat → Prop} {p : Program} {l : Launch} {e : Env} {s : State} {m : MethodId} {args : Array Value} {below : List Frame} {meth : Method} {c : Code} {K : Nat} {r : Int} {F9 : zF} {B9 : zB} (X : zX D ca L aS vS A p s m args meth c prog_15_method_115_code 4 (Option.some Jvm.ClassFile.FieldType.boolean) "StaveHouseModel") {s0 : Int} {F : zF} {B : zB} {H : Heap} {locs : List Loc} {ls : Array Slot} (hf : f_M_ties_38 K s0 F B = some (r, F9, B9)) (hZ : zH D ca ad lnM nM L F B A H) (hS : va_S A s.heap H locs) (hl : lv_has ls 4 []) : W p l e ({ frames := 1, cells := 0, slots := 0, locals := 24 } : Room) s m args below meth c H locs 0 0 (MQ below (Q_M_ties D ca ad L r F9 B9 A) args s 0 0 A) (F0 m 38 ls [.int (iI s0)]) := by
  obtain ⟨hx, hb, hr, hml, hown, hts, hlk, hK, hA, hL, hX⟩ := id X
  replace hf : (if (s0 = 0 ∨ s0 = 1) then some (s0, F, B) else none) = some (r, F9, B9) := hf
  obtain ⟨g11, hf⟩ := gif hf
  cases hf
  exact W.zret hx hb hr (zbool g11) (fun t ht hW => ⟨⟨_, (), rfl, rfl, by rw [ht]; exact hZ, va_K.moved hW.alike hK⟩, hS.F ht⟩) hS.2.2 (D_172 W_prog_15_method_115_code_32 6 rfl rfl) hlk

def f_M_ties_37 (K : Nat)  (F : zF) (B : zB) : zO := f_M_ties_38 K 0 F B
set_option maxHeartbeats 4000000 in
set_option maxRecDepth 100000 in
theorem b_M_ties_37 {D : va_G} {ca : Nat → ClassId} {ad : Nat → Int → Nat → Nat} {L : List Nat} {aS vS : Nat → Nat} {A : Nat → Prop} {p : Program} {l : Launch} {e : Env} {s : State} {m : MethodId} {args : Array Value} {below : List Frame} {meth : Method} {c : Code} {K : Nat} {r : Int} {F9 : zF} {B9 : zB} (X : zX D ca L aS vS A p s m args meth c prog_15_method_115_code 4 (Option.some Jvm.ClassFile.FieldType.boolean) "StaveHouseModel")  {F : zF} {B : zB} {H : Heap} {locs : List Loc} {ls : Array Slot} (hf : f_M_ties_37 K  F B = some (r, F9, B9)) (hZ : zH D ca ad lnM nM L F B A H) (hS : va_S A s.heap H locs) (hl : lv_has ls 4 []) : W p l e ({ frames := 1, cells := 0, slots := 0, locals := 24 } : Room) s m args below meth c H locs 0 0 (MQ below (Q_M_ties D ca ad L r F9 B9 A) args s 0 0 A) (F0 m 37 ls []) := by
  obtain ⟨hx, hb, hr, hml, hown, hts, hlk, hK, hA, hL, hX⟩ := id X
  replace hf : (f_M_ties_38 K 0 F B) = some (r, F9, B9) := hf
  refine lv_iconst (v := iI 0) hx hb (D_3 W_prog_15_method_115_code_32 5 rfl rfl) rfl ?_
  exact b_M_ties_38 X hf hZ hS (lv_sub hl [] rfl)

def f_M_ties (K : Nat) (l0 : Int) (l1 : Int) (l2 : Int) (l3 : Int) (F : zF) (B : zB) : zO := if 0 ≤ l0 ∧ l0 < 3 then if 0 ≤ l1 ∧ l1 < 4000 then if r32 (zand (B 13 l0 18 l1) 1) then (if (zand (B 13 l0 18 l1) 1) ≤ 0 then f_M_ties_37 K F B else zbind (f_M_has K l0 l1 l2 l3 F B) (fun r5 F5 B5 => if r32 r5 then (if r5 < 0 then f_M_ties_37 K F5 B5 else zbind (f_M_has K l0 (l1 + 1) l2 l3 F5 B5) (fun r8 F8 B8 => if r32 r8 then (if r8 < 0 then f_M_ties_37 K F8 B8 else f_M_ties_38 K 1 F8 B8) else none)) else none)) else none else none else none
set_option maxHeartbeats 4000000 in
set_option maxRecDepth 100000 in
theorem c_M_ties {l : Launch} {D : va_G} {ca : Nat → ClassId} {ad : Nat → Int → Nat → Nat} {L : List Nat} {aS vS : Nat → Nat} {sz K : Nat}  {l0 : Int} {l1 : Int} {l2 : Int} {l3 : Int} {F F9 : zF} {B B9 : zB} {r : Int} (hf : f_M_ties K l0 l1 l2 l3 F B = some (r, F9, B9)) : Met l ({ cls := "StaveHouseModel", name := "ties", desc := "(LStaveHouseModel$Piece;III)Z" } : Jvm.MethodName) (Cond.code ({ cls := "StaveHouseModel", name := "ties", desc := "(LStaveHouseModel$Piece;III)Z" } : Jvm.MethodName) prog_15_method_115_code 4 (Option.some Jvm.ClassFile.FieldType.boolean) :: wAll) ({ frames := 1, cells := 0, slots := 0, locals := 24 } : Room) (va_Pc [.ref (ad 13 l0 0), .int (iI l1), .int (iI l2), .int (iI l3)] (zPre D ca ad lnM nM L aS vS F B sz)) (Q_M_ties D ca ad L r F9 B9 (zA L sz)) 0 0 (zA L sz) := by
  refine zMet (Qc := Q_M_ties D ca ad L r F9 B9) (lv := [(0, .ref (ad 13 l0 0)), (1, .int (iI l1)), (2, .int (iI l2)), (3, .int (iI l3))]) (by decide) (Nat.le_of_ble_eq_true rfl) rfl (fun A p e s m below meth c ls X hZ hS hl => ?_)
  obtain ⟨hx, hb, hr, hml, hown, hts, hlk, hK, hA, hL, hX⟩ := id X
  replace hf : (if 0 ≤ l0 ∧ l0 < 3 then if 0 ≤ l1 ∧ l1 < 4000 then if r32 (zand (B 13 l0 18 l1) 1) then (if (zand (B 13 l0 18 l1) 1) ≤ 0 then f_M_ties_37 K F B else zbind (f_M_has K l0 l1 l2 l3 F B) (fun r5 F5 B5 => if r32 r5 then (if r5 < 0 then f_M_ties_37 K F5 B5 else zbind (f_M_has K l0 (l1 + 1) l2 l3 F5 B5) (fun r8 F8 B8 => if r32 r8 then (if r8 < 0 then f_M_ties_37 K F8 B8 else f_M_ties_38 K 1 F8 B8) else none)) else none)) else none else none else none) = some (r, F9, B9) := hf
  refine lv_aload_n hx hb (D_42 W_prog_15_method_115_code_0 0 rfl rfl) rfl (lv_at hl 0 rfl) ?_
  obtain ⟨g1, hf⟩ := gif hf
  refine zget (ci := 13) (C := RX13) (T := TX13) (v := .ref (ad 13 l0 (18 + 1))) (k := 18) hx hb hts inW_13 hown hK hZ g1.1 g1.2 rfl (by decide) k_9_154 rfl (D_180 W_prog_15_method_115_code_0 1 rfl rfl rfl) ?_
  refine lv_iload_n hx hb (D_27 W_prog_15_method_115_code_0 4 rfl rfl) rfl (lv_at hl 1 rfl) ?_
  obtain ⟨g2, hf⟩ := gif hf
  refine zald (ci := 13) (k := 18) hx hb hK rfl hZ g1.1 g1.2 rfl (Nat.le_of_ble_eq_true rfl) g2.1 g2.2 (D_46 W_prog_15_method_115_code_0 5 rfl rfl) ?_
  refine lv_iconst (v := iI 1) hx hb (D_4 W_prog_15_method_115_code_0 6 rfl rfl) rfl ?_
  refine zand_r hx hb (D_126 W_prog_15_method_115_code_0 7 rfl rfl) ?_
  obtain ⟨g3, hf⟩ := gif hf
  refine z0le (tgt := 37) hx hb g3 (D_158 W_prog_15_method_115_code_0 8 rfl rfl rfl) (by decide) (fun h4 => ?_) (fun h4 => ?_)
  · replace hf := gpos hf h4
    exact b_M_ties_37 X hf hZ hS (lv_sub hl [] rfl)
  · replace hf := gneg hf h4
    refine lv_aload_n hx hb (D_42 W_prog_15_method_115_code_0 11 rfl rfl) rfl (lv_at hl 0 rfl) ?_
    refine lv_iload_n hx hb (D_27 W_prog_15_method_115_code_0 12 rfl rfl) rfl (lv_at hl 1 rfl) ?_
    refine lv_iload_n hx hb (D_28 W_prog_15_method_115_code_0 13 rfl rfl) rfl (lv_at hl 2 rfl) ?_
    refine lv_iload_n hx hb (D_29 W_prog_15_method_115_code_0 14 rfl rfl) rfl (lv_at hl 3 rfl) ?_
    obtain ⟨r5, F5, B5, hc5, hf⟩ := gbind hf
    refine va_calli (va_runS (As := [.ref (ad 13 l0 0), .int (iI l1), .int (iI l2), .int (iI l3)]) (rest := []) ⟨hx, hb, hml, hown, hts⟩ (c_M_has (l := l) hc5) (va_cwS 4 hts (gdS k_12_132 k_12_133 k_1_9 k_12_134) rfl rfl rfl (by decide +kernel) ⟨Nat.le_of_ble_eq_true rfl, Nat.le_of_ble_eq_true rfl⟩) (zPS X hZ hS [.ref (ad 13 l0 0), .int (iI l1), .int (iI l2), .int (iI l3)]) rfl rfl hl.1 rfl (lv_room (Nat.le_of_ble_eq_true rfl)) (D_184 W_prog_15_method_115_code_0 15 rfl rfl rfl) ⟨Nat.le_of_ble_eq_true rfl, Nat.le_of_ble_eq_true rfl⟩) hS (fun q _ h => zAin X hS q h) (zAin X hS) (fun p5 u5 t5 H5 locs5 ht5 hv5 hw5 hB5 hz5 hk5 hS5 => ?_)
    have hZ5 := zBack X ht5 hB5
    subst hw5
    obtain ⟨g6, hf⟩ := gif hf
    refine z0lt (tgt := 37) hx hb g6 (D_155 W_prog_15_method_115_code_0 18 rfl rfl rfl) (by decide) (fun h7 => ?_) (fun h7 => ?_)
    · replace hf := gpos hf h7
      exact b_M_ties_37 X hf hZ5 hS5 (lv_sub hl [] rfl)
    · replace hf := gneg hf h7
      refine lv_aload_n hx hb (D_42 W_prog_15_method_115_code_0 21 rfl rfl) rfl (lv_at hl 0 rfl) ?_
      refine lv_iload_n hx hb (D_27 W_prog_15_method_115_code_0 22 rfl rfl) rfl (lv_at hl 1 rfl) ?_
      refine lv_iconst (v := iI 1) hx hb (D_4 W_prog_15_method_115_code_0 23 rfl rfl) rfl ?_
      refine zadd hx hb (D_96 W_prog_15_method_115_code_0 24 rfl rfl) ?_
      refine lv_iload_n hx hb (D_28 W_prog_15_method_115_code_0 25 rfl rfl) rfl (lv_at hl 2 rfl) ?_
      refine lv_iload_n hx hb (D_29 W_prog_15_method_115_code_0 26 rfl rfl) rfl (lv_at hl 3 rfl) ?_
      obtain ⟨r8, F8, B8, hc8, hf⟩ := gbind hf
      refine va_calli (va_runS (As := [.ref (ad 13 l0 0), .int (iI (l1 + 1)), .int (iI l2), .int (iI l3)]) (rest := []) ⟨hx, hb, hml, hown, hts⟩ (c_M_has (l := l) hc8) (va_cwS 4 hts (gdS k_12_132 k_12_133 k_1_9 k_12_134) rfl rfl rfl (by decide +kernel) ⟨Nat.le_of_ble_eq_true rfl, Nat.le_of_ble_eq_true rfl⟩) (zPS X hZ5 hS5 [.ref (ad 13 l0 0), .int (iI (l1 + 1)), .int (iI l2), .int (iI l3)]) rfl rfl hl.1 rfl (lv_room (Nat.le_of_ble_eq_true rfl)) (D_184 W_prog_15_method_115_code_0 27 rfl rfl rfl) ⟨Nat.le_of_ble_eq_true rfl, Nat.le_of_ble_eq_true rfl⟩) hS5 (fun q _ h => zAin X hS5 q h) (zAin X hS5) (fun p8 u8 t8 H8 locs8 ht8 hv8 hw8 hB8 hz8 hk8 hS8 => ?_)
      have hZ8 := zBack X ht8 hB8
      subst hw8
      obtain ⟨g9, hf⟩ := gif hf
      refine z0lt (tgt := 37) hx hb g9 (D_155 W_prog_15_method_115_code_0 30 rfl rfl rfl) (by decide) (fun h10 => ?_) (fun h10 => ?_)
      · replace hf := gpos hf h10
        exact b_M_ties_37 X hf hZ8 hS8 (lv_sub hl [] rfl)
      · replace hf := gneg hf h10
        refine lv_iconst (v := iI 1) hx hb (D_4 W_prog_15_method_115_code_32 1 rfl rfl) rfl ?_
        refine lv_goto (tgt := 38) hx hb (D_167 W_prog_15_method_115_code_32 2 rfl rfl rfl) (by decide) ?_
        exact b_M_ties_38 X hf hZ8 hS8 (lv_sub hl [] rfl)

abbrev Q_M_plus (D : va_G) (ca : Nat → ClassId) (ad : Nat → Int → Nat → Nat) (L : List Nat) (r : Int) (F : zF) (B : zB) (A : Nat → Prop) : Array Value → State → Outcome → State → Prop := va_Qv (S := Unit) (fun _ => True) (fun _ => zPo D ca ad lnM nM L F B A) A
def f_M_plus (K : Nat) (l1 : Int) (l3 : Int) (l5 : Int) (l7 : Int) (F : zF) (B : zB) : zO := zbind (f_M_gcd K l3 l7 F B) (fun r1 F1 B1 => if ¬ lI r1 = 0 then zbind (f_M_is K ((l1 * (zldv l7 r1)) + (l5 * (zldv l3 r1))) ((zldv l3 r1) * l7) F1 B1) (fun r3 F3 B3 => some (0, F3, B3)) else none)
set_option maxHeartbeats 4000000 in
set_option maxRecDepth 100000 in
theorem c_M_plus {l : Launch} {D : va_G} {ca : Nat → ClassId} {ad : Nat → Int → Nat → Nat} {L : List Nat} {aS vS : Nat → Nat} {sz K : Nat}  {l1 : Int} {l3 : Int} {l5 : Int} {l7 : Int} {F F9 : zF} {B B9 : zB} {r : Int} (hf : f_M_plus K l1 l3 l5 l7 F B = some (r, F9, B9)) : Met l ({ cls := "StaveHouseModel", name := "plus", desc := "(JJJJ)V" } : Jvm.MethodName) (Cond.code ({ cls := "StaveHouseModel", name := "plus", desc := "(JJJJ)V" } : Jvm.MethodName) prog_15_method_3_code 11 (Option.none : Option Jvm.ClassFile.FieldType) :: wAll) ({ frames := 2, cells := 0, slots := 0, locals := 55 } : Room) (va_Pc [.ref (ad 14 0 0), .long (lI l1), .long (lI l3), .long (lI l5), .long (lI l7)] (zPre D ca ad lnM nM L aS vS F B sz)) (Q_M_plus D ca ad L r F9 B9 (zA L sz)) 0 0 (zA L sz) := by
  refine zMet (Qc := Q_M_plus D ca ad L r F9 B9) (lv := [(0, .ref (ad 14 0 0)), (1, .long (lI l1)), (3, .long (lI l3)), (5, .long (lI l5)), (7, .long (lI l7))]) (by decide) (Nat.le_of_ble_eq_true rfl) rfl (fun A p e s m below meth c ls X hZ hS hl => ?_)
  obtain ⟨hx, hb, hr, hml, hown, hts, hlk, hK, hA, hL, hX⟩ := id X
  replace hf : (zbind (f_M_gcd K l3 l7 F B) (fun r1 F1 B1 => if ¬ lI r1 = 0 then zbind (f_M_is K ((l1 * (zldv l7 r1)) + (l5 * (zldv l3 r1))) ((zldv l3 r1) * l7) F1 B1) (fun r3 F3 B3 => some (0, F3, B3)) else none)) = some (r, F9, B9) := hf
  refine lv_lload_n hx hb (D_33 W_prog_15_method_3_code_0 0 rfl rfl) rfl (lv_at hl 2 rfl) ?_
  refine lv_lload hx hb (D_22 W_prog_15_method_3_code_0 1 rfl rfl) (lv_at hl 4 rfl) ?_
  obtain ⟨r1, F1, B1, hc1, hf⟩ := gbind hf
  refine va_calll (va_runS (As := [.long (lI l3), .long (lI l7)]) (rest := []) ⟨hx, hb, hml, hown, hts⟩ (c_M_gcd (l := l) hc1) (va_cwS 2 hts (gdS k_12_151 k_12_152 k_1_9 k_12_153) rfl rfl rfl (by decide +kernel) ⟨Nat.le_of_ble_eq_true rfl, Nat.le_of_ble_eq_true rfl⟩) (zPS X hZ hS [.long (lI l3), .long (lI l7)]) rfl rfl hl.1 rfl (lv_room (Nat.le_of_ble_eq_true rfl)) (D_184 W_prog_15_method_3_code_0 3 rfl rfl rfl) ⟨Nat.le_of_ble_eq_true rfl, Nat.le_of_ble_eq_true rfl⟩) hS (fun q _ h => zAin X hS q h) (zAin X hS) (fun p1 u1 t1 H1 locs1 ht1 hv1 hw1 hB1 hz1 hk1 hS1 => ?_)
  have hZ1 := zBack X ht1 hB1
  subst hw1
  refine lv_lstore (lv' := [(9, .long (lI r1)), (0, .ref (ad 14 0 0)), (1, .long (lI l1)), (3, .long (lI l3)), (5, .long (lI l5)), (7, .long (lI l7))]) hx hb (D_55 W_prog_15_method_3_code_0 6 rfl rfl) hl (by decide) rfl (fun ls hl => ?_)
  refine lv_aload_n hx hb (D_42 W_prog_15_method_3_code_0 8 rfl rfl) rfl (lv_at hl 1 rfl) ?_
  refine lv_lload_n hx hb (D_31 W_prog_15_method_3_code_0 9 rfl rfl) rfl (lv_at hl 2 rfl) ?_
  refine lv_lload hx hb (D_22 W_prog_15_method_3_code_0 10 rfl rfl) (lv_at hl 5 rfl) ?_
  refine lv_lload hx hb (D_22 W_prog_15_method_3_code_0 12 rfl rfl) (lv_at hl 0 rfl) ?_
  obtain ⟨g2, hf⟩ := gif hf
  refine zldv_r hx hb g2 (D_109 W_prog_15_method_3_code_0 14 rfl rfl) ?_
  refine zlmul hx hb (D_105 W_prog_15_method_3_code_0 15 rfl rfl) ?_
  refine lv_lload hx hb (D_22 W_prog_15_method_3_code_0 16 rfl rfl) (lv_at hl 4 rfl) ?_
  refine lv_lload_n hx hb (D_33 W_prog_15_method_3_code_0 18 rfl rfl) rfl (lv_at hl 3 rfl) ?_
  refine lv_lload hx hb (D_22 W_prog_15_method_3_code_0 19 rfl rfl) (lv_at hl 0 rfl) ?_
  refine zldv_r hx hb g2 (D_109 W_prog_15_method_3_code_0 21 rfl rfl) ?_
  refine zlmul hx hb (D_105 W_prog_15_method_3_code_0 22 rfl rfl) ?_
  refine zladd hx hb (D_97 W_prog_15_method_3_code_0 23 rfl rfl) ?_
  refine lv_lload_n hx hb (D_33 W_prog_15_method_3_code_0 24 rfl rfl) rfl (lv_at hl 3 rfl) ?_
  refine lv_lload hx hb (D_22 W_prog_15_method_3_code_0 25 rfl rfl) (lv_at hl 0 rfl) ?_
  refine zldv_r hx hb g2 (D_109 W_prog_15_method_3_code_0 27 rfl rfl) ?_
  refine lv_lload hx hb (D_22 W_prog_15_method_3_code_0 28 rfl rfl) (lv_at hl 5 rfl) ?_
  refine zlmul hx hb (D_105 W_prog_15_method_3_code_0 30 rfl rfl) ?_
  obtain ⟨r3, F3, B3, hc3, hf⟩ := gbind hf
  refine va_callv (va_runV (As := [.long (lI ((l1 * (zldv l7 r1)) + (l5 * (zldv l3 r1)))), .long (lI ((zldv l3 r1) * l7))]) (rest := []) ⟨hx, hb, hml, hown, hts⟩ (c_M_is (l := l) hc3) (cwV 2 hts (gdV k_12_154 k_12_156 ks_136 k_1_9 k_12_157) rfl rfl rfl (by decide +kernel) ⟨Nat.le_of_ble_eq_true rfl, Nat.le_of_ble_eq_true rfl⟩) (zPV X hZ1 hS1 (ci := 14) (by decide) (by decide) (r := (RX14, TX14, 107)) rfl [.long (lI ((l1 * (zldv l7 r1)) + (l5 * (zldv l3 r1)))), .long (lI ((zldv l3 r1) * l7))]) rfl rfl hl.1 rfl (lv_room (Nat.le_of_ble_eq_true rfl)) (D_182 W_prog_15_method_3_code_0 31 rfl rfl rfl) ⟨Nat.le_of_ble_eq_true rfl, Nat.le_of_ble_eq_true rfl⟩) hS1 (fun q _ h => zAin X hS1 q h) (zAin X hS1) (fun u3 t3 H3 locs3 ht3 hv3 hw3 hB3 hz3 hk3 hS3 => ?_)
  have hZ3 := zBack X ht3 hB3
  cases hf
  exact W.vret hx hb hr (fun t ht hW => ⟨⟨(), rfl, trivial, by rw [ht]; exact hZ3, va_K.moved hW.alike hK⟩, hS3.F ht⟩) hS3.2.2 (D_177 W_prog_15_method_3_code_32 2 rfl rfl) hlk

abbrev Q_M_mod (D : va_G) (ca : Nat → ClassId) (ad : Nat → Int → Nat → Nat) (L : List Nat) (r : Int) (F : zF) (B : zB) (A : Nat → Prop) : Array Value → State → Outcome → State → Prop := va_Qi (S := Unit) (fun p _ => p = iI r) (fun _ => zPo D ca ad lnM nM L F B A) A
def f_M_mod (K : Nat) (l0 : Int) (l1 : Int) (F : zF) (B : zB) : zO := zbind (f_M_floor K l0 l1 F B) (fun r1 F1 B1 => some (l0 - (l1 * r1), F1, B1))
set_option maxHeartbeats 4000000 in
set_option maxRecDepth 100000 in
theorem c_M_mod {l : Launch} {D : va_G} {ca : Nat → ClassId} {ad : Nat → Int → Nat → Nat} {L : List Nat} {aS vS : Nat → Nat} {sz K : Nat}  {l0 : Int} {l1 : Int} {F F9 : zF} {B B9 : zB} {r : Int} (hf : f_M_mod K l0 l1 F B = some (r, F9, B9)) : Met l ({ cls := "StaveHouseModel", name := "mod", desc := "(II)I" } : Jvm.MethodName) (Cond.code ({ cls := "StaveHouseModel", name := "mod", desc := "(II)I" } : Jvm.MethodName) prog_15_method_10_code 2 (Option.some Jvm.ClassFile.FieldType.int) :: wAll) ({ frames := 1, cells := 0, slots := 0, locals := 22 } : Room) (va_Pc [.int (iI l0), .int (iI l1)] (zPre D ca ad lnM nM L aS vS F B sz)) (Q_M_mod D ca ad L r F9 B9 (zA L sz)) 0 0 (zA L sz) := by
  refine zMet (Qc := Q_M_mod D ca ad L r F9 B9) (lv := [(0, .int (iI l0)), (1, .int (iI l1))]) (by decide) (Nat.le_of_ble_eq_true rfl) rfl (fun A p e s m below meth c ls X hZ hS hl => ?_)
  obtain ⟨hx, hb, hr, hml, hown, hts, hlk, hK, hA, hL, hX⟩ := id X
  replace hf : (zbind (f_M_floor K l0 l1 F B) (fun r1 F1 B1 => some (l0 - (l1 * r1), F1, B1))) = some (r, F9, B9) := hf
  refine lv_iload_n hx hb (D_26 W_prog_15_method_10_code_0 0 rfl rfl) rfl (lv_at hl 0 rfl) ?_
  refine lv_iload_n hx hb (D_27 W_prog_15_method_10_code_0 1 rfl rfl) rfl (lv_at hl 1 rfl) ?_
  refine lv_iload_n hx hb (D_26 W_prog_15_method_10_code_0 2 rfl rfl) rfl (lv_at hl 0 rfl) ?_
  refine lv_iload_n hx hb (D_27 W_prog_15_method_10_code_0 3 rfl rfl) rfl (lv_at hl 1 rfl) ?_
  obtain ⟨r1, F1, B1, hc1, hf⟩ := gbind hf
  refine va_calli (va_runS (As := [.int (iI l0), .int (iI l1)]) (rest := [.int (iI l1), .int (iI l0)]) ⟨hx, hb, hml, hown, hts⟩ (c_M_floor (l := l) hc1) (va_cwS 2 hts (gdS k_12_167 k_12_168 k_1_9 k_12_169) rfl rfl rfl (by decide +kernel) ⟨Nat.le_of_ble_eq_true rfl, Nat.le_of_ble_eq_true rfl⟩) (zPS X hZ hS [.int (iI l0), .int (iI l1)]) rfl rfl hl.1 rfl (lv_room (Nat.le_of_ble_eq_true rfl)) (D_184 W_prog_15_method_10_code_0 4 rfl rfl rfl) ⟨Nat.le_of_ble_eq_true rfl, Nat.le_of_ble_eq_true rfl⟩) hS (fun q _ h => zAin X hS q h) (zAin X hS) (fun p1 u1 t1 H1 locs1 ht1 hv1 hw1 hB1 hz1 hk1 hS1 => ?_)
  have hZ1 := zBack X ht1 hB1
  subst hw1
  refine zmul hx hb (D_104 W_prog_15_method_10_code_0 7 rfl rfl) ?_
  refine zsub hx hb (D_100 W_prog_15_method_10_code_0 8 rfl rfl) ?_
  cases hf
  exact W.iret hx hb hr (fun t ht hW => ⟨⟨_, (), rfl, rfl, by rw [ht]; exact hZ1, va_K.moved hW.alike hK⟩, hS1.F ht⟩) hS1.2.2 (D_172 W_prog_15_method_10_code_0 9 rfl rfl) hlk

abbrev Q_M_put_1 (D : va_G) (ca : Nat → ClassId) (ad : Nat → Int → Nat → Nat) (L : List Nat) (r : Int) (F : zF) (B : zB) (A : Nat → Prop) : Array Value → State → Outcome → State → Prop := va_Qv (S := Unit) (fun _ => True) (fun _ => zPo D ca ad lnM nM L F B A) A
def f_M_put_1_2 (K : Nat) : Nat → Int → Nat → zF → zB → zO
  | 0, _, _, _, _ => none
  | n + 1, l2, l1, F, B => if l1 < strL.length then zbind (f_String_length K l1 F B) (fun r2 F2 B2 => if r32 l2 then if r32 r2 then (if r2 ≤ l2 then some (0, F2, B2) else zbind (f_String_charAt K l1 l2 F2 B2) (fun r6 F6 B6 => zbind (f_M_put_0 K r6 F6 B6) (fun r7 F7 B7 => f_M_put_1_2 K n (l2 + 1) l1 F7 B7))) else none else none) else none
set_option maxHeartbeats 4000000 in
set_option maxRecDepth 100000 in
theorem b_M_put_1_2 {D : va_G} {ca : Nat → ClassId} {ad : Nat → Int → Nat → Nat} {L : List Nat} {aS vS : Nat → Nat} {A : Nat → Prop} {p : Program} {l : Launch} {e : Env} {s : State} {m : MethodId} {args : Array Value} {below : List Frame} {meth : Method} {c : Code} {K : Nat} {r : Int} {F9 : zF} {B9 : zB} (X : zX D ca L aS vS A p s m args meth c prog_15_method_124_code 3 (Option.none : Option Jvm.ClassFile.FieldType) "StaveHouseModel") : ∀ {n : Nat} {l2 : Int} {l1 : Nat} {F : zF} {B : zB} {H : Heap} {locs : List Loc} {ls : Array Slot}, f_M_put_1_2 K n l2 l1 F B = some (r, F9, B9) → zH D ca ad lnM nM L F B A H → va_S A s.heap H locs → lv_has ls 3 [(2, .int (iI l2)), (0, .ref (ad 14 0 0)), (1, .ref (aS l1))] → W p l e ({ frames := 4, cells := 0, slots := 0, locals := 85 } : Room) s m args below meth c H locs 0 0 (MQ below (Q_M_put_1 D ca ad L r F9 B9 A) args s 0 0 A) (F0 m 2 ls []) := by
  obtain ⟨hx, hb, hr, hml, hown, hts, hlk, hK, hA, hL, hX⟩ := id X
  intro n
  induction n with
  | zero =>
    intros
    rename_i hf _ _ _
    cases hf
  | succ n ih =>
    intro l2 l1 F B H locs ls hf hZ hS hl
    replace hf : (if l1 < strL.length then zbind (f_String_length K l1 F B) (fun r2 F2 B2 => if r32 l2 then if r32 r2 then (if r2 ≤ l2 then some (0, F2, B2) else zbind (f_String_charAt K l1 l2 F2 B2) (fun r6 F6 B6 => zbind (f_M_put_0 K r6 F6 B6) (fun r7 F7 B7 => f_M_put_1_2 K n (l2 + 1) l1 F7 B7))) else none else none) else none) = some (r, F9, B9) := hf
    refine lv_iload_n hx hb (D_28 W_prog_15_method_124_code_0 2 rfl rfl) rfl (lv_at hl 0 rfl) ?_
    refine lv_aload_n hx hb (D_43 W_prog_15_method_124_code_0 3 rfl rfl) rfl (lv_at hl 2 rfl) ?_
    obtain ⟨g1, hf⟩ := gif hf
    obtain ⟨r2, F2, B2, hc2, hf⟩ := gbind hf
    refine va_calli (va_runV (As := []) (rest := [.int (iI l2)]) ⟨hx, hb, hml, hown, hts⟩ (c_String_length (l := l) hc2) (cwV 0 hts (gdV k_10_194 k_3_82 k_3_83 k_1_11 k_3_84) rfl rfl rfl (by decide +kernel) ⟨Nat.le_of_ble_eq_true rfl, Nat.le_of_ble_eq_true rfl⟩) ⟨zBlind, zsrecv hX g1 hS, zAt X hZ hS [.ref (aS l1)]⟩ rfl rfl hl.1 rfl (lv_room (Nat.le_of_ble_eq_true rfl)) (D_182 W_prog_15_method_124_code_0 4 rfl rfl rfl) ⟨Nat.le_of_ble_eq_true rfl, Nat.le_of_ble_eq_true rfl⟩) hS (fun q _ h => zAin X hS q h) (zAin X hS) (fun p2 u2 t2 H2 locs2 ht2 hv2 hw2 hB2 hz2 hk2 hS2 => ?_)
    have hZ2 := zBack X ht2 hB2
    subst hw2
    obtain ⟨g3, hf⟩ := gif hf
    obtain ⟨g4, hf⟩ := gif hf
    refine zge (tgt := 25) hx hb g3 g4 (D_162 W_prog_15_method_124_code_0 7 rfl rfl rfl) (by decide) (fun h5 => ?_) (fun h5 => ?_)
    · replace hf := gpos hf h5
      cases hf
      exact W.vret hx hb hr (fun t ht hW => ⟨⟨(), rfl, trivial, by rw [ht]; exact hZ2, va_K.moved hW.alike hK⟩, hS2.F ht⟩) hS2.2.2 (D_177 W_prog_15_method_124_code_0 25 rfl rfl) hlk
    · replace hf := gneg hf h5
      refine lv_aload_n hx hb (D_42 W_prog_15_method_124_code_0 10 rfl rfl) rfl (lv_at hl 1 rfl) ?_
      refine lv_aload_n hx hb (D_43 W_prog_15_method_124_code_0 11 rfl rfl) rfl (lv_at hl 2 rfl) ?_
      refine lv_iload_n hx hb (D_28 W_prog_15_method_124_code_0 12 rfl rfl) rfl (lv_at hl 0 rfl) ?_
      obtain ⟨r6, F6, B6, hc6, hf⟩ := gbind hf
      refine va_calli (va_runV (As := [.int (iI l2)]) (rest := [.ref (ad 14 0 0)]) ⟨hx, hb, hml, hown, hts⟩ (c_String_charAt (l := l) hc6) (cwV 1 hts (gdV k_10_195 k_7_134 k_7_135 k_1_11 k_7_136) rfl rfl rfl (by decide +kernel) ⟨Nat.le_of_ble_eq_true rfl, Nat.le_of_ble_eq_true rfl⟩) ⟨zBlind, zsrecv hX g1 hS2, zAt X hZ2 hS2 [.ref (aS l1), .int (iI l2)]⟩ rfl rfl hl.1 rfl (lv_room (Nat.le_of_ble_eq_true rfl)) (D_182 W_prog_15_method_124_code_0 13 rfl rfl rfl) ⟨Nat.le_of_ble_eq_true rfl, Nat.le_of_ble_eq_true rfl⟩) hS2 (fun q _ h => zAin X hS2 q h) (zAin X hS2) (fun p6 u6 t6 H6 locs6 ht6 hv6 hw6 hB6 hz6 hk6 hS6 => ?_)
      have hZ6 := zBack X ht6 hB6
      subst hw6
      obtain ⟨r7, F7, B7, hc7, hf⟩ := gbind hf
      refine va_callv (va_runV (As := [.int (iI r6)]) (rest := []) ⟨hx, hb, hml, hown, hts⟩ (c_M_put_0 (l := l) hc7) (cwV 1 hts (gdV k_12_199 k_12_201 ks_142 k_1_9 k_12_202) rfl rfl rfl (by decide +kernel) ⟨Nat.le_of_ble_eq_true rfl, Nat.le_of_ble_eq_true rfl⟩) (zPV X hZ6 hS6 (ci := 14) (by decide) (by decide) (r := (RX14, TX14, 107)) rfl [.int (iI r6)]) rfl rfl hl.1 rfl (lv_room (Nat.le_of_ble_eq_true rfl)) (D_182 W_prog_15_method_124_code_0 16 rfl rfl rfl) ⟨Nat.le_of_ble_eq_true rfl, Nat.le_of_ble_eq_true rfl⟩) hS6 (fun q _ h => zAin X hS6 q h) (zAin X hS6) (fun u7 t7 H7 locs7 ht7 hv7 hw7 hB7 hz7 hk7 hS7 => ?_)
      have hZ7 := zBack X ht7 hB7
      refine lv_iinc (v := iI (l2 + 1)) (lv' := [(2, .int (iI (l2 + 1))), (0, .ref (ad 14 0 0)), (1, .ref (aS l1))]) hx hb d_15_124_19 hl (k := 0) rfl (iI_add _ 1) (by decide) rfl (fun ls hl => ?_)
      refine lv_goto (tgt := 2) hx hb (D_167 W_prog_15_method_124_code_0 22 rfl rfl rfl) (by decide) ?_
      exact ih hf hZ7 hS7 (lv_sub hl [0, 1, 2] rfl)

def f_M_put_1 (K : Nat) (l1 : Nat) (F : zF) (B : zB) : zO := f_M_put_1_2 K K 0 l1 F B
set_option maxHeartbeats 4000000 in
set_option maxRecDepth 100000 in
theorem c_M_put_1 {l : Launch} {D : va_G} {ca : Nat → ClassId} {ad : Nat → Int → Nat → Nat} {L : List Nat} {aS vS : Nat → Nat} {sz K : Nat}  {l1 : Nat} {F F9 : zF} {B B9 : zB} {r : Int} (hf : f_M_put_1 K l1 F B = some (r, F9, B9)) : Met l ({ cls := "StaveHouseModel", name := "put", desc := "(Ljava/lang/String;)V" } : Jvm.MethodName) (Cond.code ({ cls := "StaveHouseModel", name := "put", desc := "(Ljava/lang/String;)V" } : Jvm.MethodName) prog_15_method_124_code 3 (Option.none : Option Jvm.ClassFile.FieldType) :: wAll) ({ frames := 4, cells := 0, slots := 0, locals := 85 } : Room) (va_Pc [.ref (ad 14 0 0), .ref (aS l1)] (zPre D ca ad lnM nM L aS vS F B sz)) (Q_M_put_1 D ca ad L r F9 B9 (zA L sz)) 0 0 (zA L sz) := by
  refine zMet (Qc := Q_M_put_1 D ca ad L r F9 B9) (lv := [(0, .ref (ad 14 0 0)), (1, .ref (aS l1))]) (by decide) (Nat.le_of_ble_eq_true rfl) rfl (fun A p e s m below meth c ls X hZ hS hl => ?_)
  obtain ⟨hx, hb, hr, hml, hown, hts, hlk, hK, hA, hL, hX⟩ := id X
  replace hf : (f_M_put_1_2 K K 0 l1 F B) = some (r, F9, B9) := hf
  refine lv_iconst (v := iI 0) hx hb (D_3 W_prog_15_method_124_code_0 0 rfl rfl) rfl ?_
  refine lv_istore_n (lv' := [(2, .int (iI 0)), (0, .ref (ad 14 0 0)), (1, .ref (aS l1))]) hx hb (D_61 W_prog_15_method_124_code_0 1 rfl rfl) rfl hl (by decide) rfl (fun ls hl => ?_)
  exact b_M_put_1_2 X hf hZ hS (lv_sub hl [0, 1, 2] rfl)

abbrev Q_M_beginTrack (D : va_G) (ca : Nat → ClassId) (ad : Nat → Int → Nat → Nat) (L : List Nat) (r : Int) (F : zF) (B : zB) (A : Nat → Prop) : Array Value → State → Outcome → State → Prop := va_Qi (S := Unit) (fun p _ => p = iI r) (fun _ => zPo D ca ad lnM nM L F B A) A
def f_M_beginTrack (K : Nat)  (F : zF) (B : zB) : zO := zbind (f_M_put_1 K 37 F B) (fun r1 F1 B1 => zbind (f_M_four K 0 F1 B1) (fun r2 F2 B2 => some (F2 14 0 71, F2, B2)))
set_option maxHeartbeats 4000000 in
set_option maxRecDepth 100000 in
theorem c_M_beginTrack {l : Launch} {D : va_G} {ca : Nat → ClassId} {ad : Nat → Int → Nat → Nat} {L : List Nat} {aS vS : Nat → Nat} {sz K : Nat}   {F F9 : zF} {B B9 : zB} {r : Int} (hf : f_M_beginTrack K  F B = some (r, F9, B9)) : Met l ({ cls := "StaveHouseModel", name := "beginTrack", desc := "()I" } : Jvm.MethodName) (Cond.code ({ cls := "StaveHouseModel", name := "beginTrack", desc := "()I" } : Jvm.MethodName) prog_15_method_130_code 1 (Option.some Jvm.ClassFile.FieldType.int) :: wAll) ({ frames := 5, cells := 0, slots := 0, locals := 107 } : Room) (va_Pc [.ref (ad 14 0 0)] (zPre D ca ad lnM nM L aS vS F B sz)) (Q_M_beginTrack D ca ad L r F9 B9 (zA L sz)) 0 0 (zA L sz) := by
  refine zMet (Qc := Q_M_beginTrack D ca ad L r F9 B9) (lv := [(0, .ref (ad 14 0 0))]) (by decide) (Nat.le_of_ble_eq_true rfl) rfl (fun A p e s m below meth c ls X hZ hS hl => ?_)
  obtain ⟨hx, hb, hr, hml, hown, hts, hlk, hK, hA, hL, hX⟩ := id X
  replace hf : (zbind (f_M_put_1 K 37 F B) (fun r1 F1 B1 => zbind (f_M_four K 0 F1 B1) (fun r2 F2 B2 => some (F2 14 0 71, F2, B2)))) = some (r, F9, B9) := hf
  refine lv_aload_n hx hb (D_42 W_prog_15_method_130_code_0 0 rfl rfl) rfl (lv_at hl 0 rfl) ?_
  refine gldcwS hx hb hown (hX.2.2.2.2.1 37 _ rfl).1 (D_19 W_prog_15_method_130_code_0 1 rfl rfl rfl) ?_
  obtain ⟨r1, F1, B1, hc1, hf⟩ := gbind hf
  refine va_callv (va_runV (As := [.ref (aS 37)]) (rest := []) ⟨hx, hb, hml, hown, hts⟩ (c_M_put_1 (l := l) hc1) (cwV 1 hts (gdV k_12_195 k_12_197 ks_141 k_1_9 k_12_198) rfl rfl rfl (by decide +kernel) ⟨Nat.le_of_ble_eq_true rfl, Nat.le_of_ble_eq_true rfl⟩) (zPV X hZ hS (ci := 14) (by decide) (by decide) (r := (RX14, TX14, 107)) rfl [.ref (aS 37)]) rfl rfl hl.1 rfl (lv_room (Nat.le_of_ble_eq_true rfl)) (D_182 W_prog_15_method_130_code_0 4 rfl rfl rfl) ⟨Nat.le_of_ble_eq_true rfl, Nat.le_of_ble_eq_true rfl⟩) hS (fun q _ h => zAin X hS q h) (zAin X hS) (fun u1 t1 H1 locs1 ht1 hv1 hw1 hB1 hz1 hk1 hS1 => ?_)
  have hZ1 := zBack X ht1 hB1
  refine lv_aload_n hx hb (D_42 W_prog_15_method_130_code_0 7 rfl rfl) rfl (lv_at hl 0 rfl) ?_
  refine lv_iconst (v := iI 0) hx hb (D_3 W_prog_15_method_130_code_0 8 rfl rfl) rfl ?_
  obtain ⟨r2, F2, B2, hc2, hf⟩ := gbind hf
  refine va_callv (va_runV (As := [.int (iI 0)]) (rest := []) ⟨hx, hb, hml, hown, hts⟩ (c_M_four (l := l) hc2) (cwV 1 hts (gdV k_12_203 k_12_205 ks_143 k_1_9 k_12_206) rfl rfl rfl (by decide +kernel) ⟨Nat.le_of_ble_eq_true rfl, Nat.le_of_ble_eq_true rfl⟩) (zPV X hZ1 hS1 (ci := 14) (by decide) (by decide) (r := (RX14, TX14, 107)) rfl [.int (iI 0)]) rfl rfl hl.1 rfl (lv_room (Nat.le_of_ble_eq_true rfl)) (D_182 W_prog_15_method_130_code_0 9 rfl rfl rfl) ⟨Nat.le_of_ble_eq_true rfl, Nat.le_of_ble_eq_true rfl⟩) hS1 (fun q _ h => zAin X hS1 q h) (zAin X hS1) (fun u2 t2 H2 locs2 ht2 hv2 hw2 hB2 hz2 hk2 hS2 => ?_)
  have hZ2 := zBack X ht2 hB2
  refine lv_aload_n hx hb (D_42 W_prog_15_method_130_code_0 12 rfl rfl) rfl (lv_at hl 0 rfl) ?_
  refine zget (ci := 14) (C := RX14) (T := TX14) (v := .int (iI (F2 14 0 71))) (k := 71) hx hb hts inW_14 hown hK hZ2 (by decide) (by decide) rfl (by decide) k_11_69 rfl (D_180 W_prog_15_method_130_code_0 13 rfl rfl rfl) ?_
  cases hf
  exact W.iret hx hb hr (fun t ht hW => ⟨⟨_, (), rfl, rfl, by rw [ht]; exact hZ2, va_K.moved hW.alike hK⟩, hS2.F ht⟩) hS2.2.2 (D_172 W_prog_15_method_130_code_0 16 rfl rfl) hlk

abbrev Q_M_voiceTrack (D : va_G) (ca : Nat → ClassId) (ad : Nat → Int → Nat → Nat) (L : List Nat) (r : Int) (F : zF) (B : zB) (A : Nat → Prop) : Array Value → State → Outcome → State → Prop := va_Qv (S := Unit) (fun _ => True) (fun _ => zPo D ca ad lnM nM L F B A) A
def f_M_voiceTrack_163 (rec72 : Int → Int → Int → Int → Int → zF → zB → zO) (K : Nat) (l5 : Int) (l4 : Int) (l3 : Int) (l1 : Int) (l2 : Int) (F : zF) (B : zB) : zO := rec72 (l5 + 1) l4 l3 l1 l2 F B
set_option maxHeartbeats 4000000 in
set_option maxRecDepth 100000 in
theorem b_M_voiceTrack_163 {D : va_G} {ca : Nat → ClassId} {ad : Nat → Int → Nat → Nat} {L : List Nat} {aS vS : Nat → Nat} {A : Nat → Prop} {p : Program} {l : Launch} {e : Env} {s : State} {m : MethodId} {args : Array Value} {below : List Frame} {meth : Method} {c : Code} {K : Nat} {r : Int} {F9 : zF} {B9 : zB} (X : zX D ca L aS vS A p s m args meth c prog_15_method_132_code 6 (Option.none : Option Jvm.ClassFile.FieldType) "StaveHouseModel") {rec72 : Int → Int → Int → Int → Int → zF → zB → zO} (hrec72 : ∀ {l5 : Int} {l4 : Int} {l3 : Int} {l1 : Int} {l2 : Int} {F : zF} {B : zB} {H : Heap} {locs : List Loc} {ls : Array Slot}, rec72 l5 l4 l3 l1 l2 F B = some (r, F9, B9) → zH D ca ad lnM nM L F B A H → va_S A s.heap H locs → lv_has ls 6 [(5, .int (iI l5)), (4, .int (iI l4)), (3, .int (iI l3)), (0, .ref (ad 14 0 0)), (1, .ref (ad 13 l1 0)), (2, .int (iI l2))] → W p l e ({ frames := 6, cells := 0, slots := 0, locals := 127 } : Room) s m args below meth c H locs 0 0 (MQ below (Q_M_voiceTrack D ca ad L r F9 B9 A) args s 0 0 A) (F0 m 72 ls [])) {l5 : Int} {l4 : Int} {l3 : Int} {l1 : Int} {l2 : Int} {F : zF} {B : zB} {H : Heap} {locs : List Loc} {ls : Array Slot} (hf : f_M_voiceTrack_163 rec72 K l5 l4 l3 l1 l2 F B = some (r, F9, B9)) (hZ : zH D ca ad lnM nM L F B A H) (hS : va_S A s.heap H locs) (hl : lv_has ls 6 [(5, .int (iI l5)), (4, .int (iI l4)), (3, .int (iI l3)), (0, .ref (ad 14 0 0)), (1, .ref (ad 13 l1 0)), (2, .int (iI l2))]) : W p l e ({ frames := 6, cells := 0, slots := 0, locals := 127 } : Room) s m args below meth c H locs 0 0 (MQ below (Q_M_voiceTrack D ca ad L r F9 B9 A) args s 0 0 A) (F0 m 163 ls []) := by
  obtain ⟨hx, hb, hr, hml, hown, hts, hlk, hK, hA, hL, hX⟩ := id X
  replace hf : (rec72 (l5 + 1) l4 l3 l1 l2 F B) = some (r, F9, B9) := hf
  refine lv_iinc (v := iI (l5 + 1)) (lv' := [(5, .int (iI (l5 + 1))), (4, .int (iI l4)), (3, .int (iI l3)), (0, .ref (ad 14 0 0)), (1, .ref (ad 13 l1 0)), (2, .int (iI l2))]) hx hb d_15_132_163 hl (k := 0) rfl (iI_add _ 1) (by decide) rfl (fun ls hl => ?_)
  refine lv_goto (tgt := 72) hx hb (D_167 W_prog_15_method_132_code_160 6 rfl rfl rfl) (by decide) ?_
  exact hrec72 hf hZ hS (lv_sub hl [0, 1, 2, 3, 4, 5] rfl)

def f_M_voiceTrack_132 (rec72 : Int → Int → Int → Int → Int → zF → zB → zO) (K : Nat) (l5 : Int) (l3 : Int) (l1 : Int) (l2 : Int) (F : zF) (B : zB) : zO := if 0 ≤ l1 ∧ l1 < 3 then if 0 ≤ l5 ∧ l5 < 4000 then zbind (f_M_put_0 K (B 13 l1 63 l5) F B) (fun r29 F29 B29 => zbind (f_M_put_0 K (B29 13 l1 64 l5) F29 B29) (fun r30 F30 B30 => f_M_voiceTrack_163 rec72 K l5 (B30 13 l1 61 l5) l3 l1 l2 F30 B30)) else none else none
set_option maxHeartbeats 4000000 in
set_option maxRecDepth 100000 in
theorem b_M_voiceTrack_132 {D : va_G} {ca : Nat → ClassId} {ad : Nat → Int → Nat → Nat} {L : List Nat} {aS vS : Nat → Nat} {A : Nat → Prop} {p : Program} {l : Launch} {e : Env} {s : State} {m : MethodId} {args : Array Value} {below : List Frame} {meth : Method} {c : Code} {K : Nat} {r : Int} {F9 : zF} {B9 : zB} (X : zX D ca L aS vS A p s m args meth c prog_15_method_132_code 6 (Option.none : Option Jvm.ClassFile.FieldType) "StaveHouseModel") {rec72 : Int → Int → Int → Int → Int → zF → zB → zO} (hrec72 : ∀ {l5 : Int} {l4 : Int} {l3 : Int} {l1 : Int} {l2 : Int} {F : zF} {B : zB} {H : Heap} {locs : List Loc} {ls : Array Slot}, rec72 l5 l4 l3 l1 l2 F B = some (r, F9, B9) → zH D ca ad lnM nM L F B A H → va_S A s.heap H locs → lv_has ls 6 [(5, .int (iI l5)), (4, .int (iI l4)), (3, .int (iI l3)), (0, .ref (ad 14 0 0)), (1, .ref (ad 13 l1 0)), (2, .int (iI l2))] → W p l e ({ frames := 6, cells := 0, slots := 0, locals := 127 } : Room) s m args below meth c H locs 0 0 (MQ below (Q_M_voiceTrack D ca ad L r F9 B9 A) args s 0 0 A) (F0 m 72 ls [])) {l5 : Int} {l3 : Int} {l1 : Int} {l2 : Int} {F : zF} {B : zB} {H : Heap} {locs : List Loc} {ls : Array Slot} (hf : f_M_voiceTrack_132 rec72 K l5 l3 l1 l2 F B = some (r, F9, B9)) (hZ : zH D ca ad lnM nM L F B A H) (hS : va_S A s.heap H locs) (hl : lv_has ls 6 [(5, .int (iI l5)), (3, .int (iI l3)), (0, .ref (ad 14 0 0)), (1, .ref (ad 13 l1 0)), (2, .int (iI l2))]) : W p l e ({ frames := 6, cells := 0, slots := 0, locals := 127 } : Room) s m args below meth c H locs 0 0 (MQ below (Q_M_voiceTrack D ca ad L r F9 B9 A) args s 0 0 A) (F0 m 132 ls []) := by
  obtain ⟨hx, hb, hr, hml, hown, hts, hlk, hK, hA, hL, hX⟩ := id X
  replace hf : (if 0 ≤ l1 ∧ l1 < 3 then if 0 ≤ l5 ∧ l5 < 4000 then zbind (f_M_put_0 K (B 13 l1 63 l5) F B) (fun r29 F29 B29 => zbind (f_M_put_0 K (B29 13 l1 64 l5) F29 B29) (fun r30 F30 B30 => f_M_voiceTrack_163 rec72 K l5 (B30 13 l1 61 l5) l3 l1 l2 F30 B30)) else none else none) = some (r, F9, B9) := hf
  refine lv_aload_n hx hb (D_42 W_prog_15_method_132_code_128 4 rfl rfl) rfl (lv_at hl 2 rfl) ?_
  refine lv_aload_n hx hb (D_43 W_prog_15_method_132_code_128 5 rfl rfl) rfl (lv_at hl 3 rfl) ?_
  obtain ⟨g27, hf⟩ := gif hf
  refine zget (ci := 13) (C := RX13) (T := TX13) (v := .ref (ad 13 l1 (63 + 1))) (k := 63) hx hb hts inW_13 hown hK hZ g27.1 g27.2 rfl (by decide) k_9_239 rfl (D_180 W_prog_15_method_132_code_128 6 rfl rfl rfl) ?_
  refine lv_iload hx hb (D_21 W_prog_15_method_132_code_128 9 rfl rfl) (lv_at hl 0 rfl) ?_
  obtain ⟨g28, hf⟩ := gif hf
  refine zald (ci := 13) (k := 63) hx hb hK rfl hZ g27.1 g27.2 rfl (Nat.le_of_ble_eq_true rfl) g28.1 g28.2 (D_46 W_prog_15_method_132_code_128 11 rfl rfl) ?_
  obtain ⟨r29, F29, B29, hc29, hf⟩ := gbind hf
  refine va_callv (va_runV (As := [.int (iI (B 13 l1 63 l5))]) (rest := []) ⟨hx, hb, hml, hown, hts⟩ (c_M_put_0 (l := l) hc29) (cwV 1 hts (gdV k_12_199 k_12_201 ks_142 k_1_9 k_12_202) rfl rfl rfl (by decide +kernel) ⟨Nat.le_of_ble_eq_true rfl, Nat.le_of_ble_eq_true rfl⟩) (zPV X hZ hS (ci := 14) (by decide) (by decide) (r := (RX14, TX14, 107)) rfl [.int (iI (B 13 l1 63 l5))]) rfl rfl hl.1 rfl (lv_room (Nat.le_of_ble_eq_true rfl)) (D_182 W_prog_15_method_132_code_128 12 rfl rfl rfl) ⟨Nat.le_of_ble_eq_true rfl, Nat.le_of_ble_eq_true rfl⟩) hS (fun q _ h => zAin X hS q h) (zAin X hS) (fun u29 t29 H29 locs29 ht29 hv29 hw29 hB29 hz29 hk29 hS29 => ?_)
  have hZ29 := zBack X ht29 hB29
  refine lv_aload_n hx hb (D_42 W_prog_15_method_132_code_128 15 rfl rfl) rfl (lv_at hl 2 rfl) ?_
  refine lv_aload_n hx hb (D_43 W_prog_15_method_132_code_128 16 rfl rfl) rfl (lv_at hl 3 rfl) ?_
  refine zget (ci := 13) (C := RX13) (T := TX13) (v := .ref (ad 13 l1 (64 + 1))) (k := 64) hx hb hts inW_13 hown hK hZ29 g27.1 g27.2 rfl (by decide) k_10_1 rfl (D_180 W_prog_15_method_132_code_128 17 rfl rfl rfl) ?_
  refine lv_iload hx hb (D_21 W_prog_15_method_132_code_128 20 rfl rfl) (lv_at hl 0 rfl) ?_
  refine zald (ci := 13) (k := 64) hx hb hK rfl hZ29 g27.1 g27.2 rfl (Nat.le_of_ble_eq_true rfl) g28.1 g28.2 (D_46 W_prog_15_method_132_code_128 22 rfl rfl) ?_
  obtain ⟨r30, F30, B30, hc30, hf⟩ := gbind hf
  refine va_callv (va_runV (As := [.int (iI (B29 13 l1 64 l5))]) (rest := []) ⟨hx, hb, hml, hown, hts⟩ (c_M_put_0 (l := l) hc30) (cwV 1 hts (gdV k_12_199 k_12_201 ks_142 k_1_9 k_12_202) rfl rfl rfl (by decide +kernel) ⟨Nat.le_of_ble_eq_true rfl, Nat.le_of_ble_eq_true rfl⟩) (zPV X hZ29 hS29 (ci := 14) (by decide) (by decide) (r := (RX14, TX14, 107)) rfl [.int (iI (B29 13 l1 64 l5))]) rfl rfl hl.1 rfl (lv_room (Nat.le_of_ble_eq_true rfl)) (D_182 W_prog_15_method_132_code_128 23 rfl rfl rfl) ⟨Nat.le_of_ble_eq_true rfl, Nat.le_of_ble_eq_true rfl⟩) hS29 (fun q _ h => zAin X hS29 q h) (zAin X hS29) (fun u30 t30 H30 locs30 ht30 hv30 hw30 hB30 hz30 hk30 hS30 => ?_)
  have hZ30 := zBack X ht30 hB30
  refine lv_aload_n hx hb (D_43 W_prog_15_method_132_code_128 26 rfl rfl) rfl (lv_at hl 3 rfl) ?_
  refine zget (ci := 13) (C := RX13) (T := TX13) (v := .ref (ad 13 l1 (61 + 1))) (k := 61) hx hb hts inW_13 hown hK hZ30 g27.1 g27.2 rfl (by decide) k_9_235 rfl (D_180 W_prog_15_method_132_code_128 27 rfl rfl rfl) ?_
  refine lv_iload hx hb (D_21 W_prog_15_method_132_code_128 30 rfl rfl) (lv_at hl 0 rfl) ?_
  refine zald (ci := 13) (k := 61) hx hb hK rfl hZ30 g27.1 g27.2 rfl (Nat.le_of_ble_eq_true rfl) g28.1 g28.2 (D_46 W_prog_15_method_132_code_160 0 rfl rfl) ?_
  refine lv_istore (lv' := [(4, .int (iI (B30 13 l1 61 l5))), (5, .int (iI l5)), (3, .int (iI l3)), (0, .ref (ad 14 0 0)), (1, .ref (ad 13 l1 0)), (2, .int (iI l2))]) hx hb (D_54 W_prog_15_method_132_code_160 1 rfl rfl) hl (by decide) rfl (fun ls hl => ?_)
  exact b_M_voiceTrack_163 X hrec72 hf hZ30 hS30 (lv_sub hl [1, 0, 2, 3, 4, 5] rfl)

def f_M_voiceTrack_114 (rec72 : Int → Int → Int → Int → Int → zF → zB → zO) (K : Nat) (l5 : Int) (l4 : Int) (l3 : Int) (l1 : Int) (l2 : Int) (s1 : Int) (s2 : Int) (F : zF) (B : zB) : zO := zbind (f_M_delta K (s1 - s2) F B) (fun r23 F23 B23 => if r32 l4 then (if 0 ≤ l4 then f_M_voiceTrack_132 rec72 K l5 l3 l1 l2 F23 B23 else zbind (f_M_put_0 K (144 + l2) F23 B23) (fun r26 F26 B26 => f_M_voiceTrack_132 rec72 K l5 l3 l1 l2 F26 B26)) else none)
set_option maxHeartbeats 4000000 in
set_option maxRecDepth 100000 in
theorem b_M_voiceTrack_114 {D : va_G} {ca : Nat → ClassId} {ad : Nat → Int → Nat → Nat} {L : List Nat} {aS vS : Nat → Nat} {A : Nat → Prop} {p : Program} {l : Launch} {e : Env} {s : State} {m : MethodId} {args : Array Value} {below : List Frame} {meth : Method} {c : Code} {K : Nat} {r : Int} {F9 : zF} {B9 : zB} (X : zX D ca L aS vS A p s m args meth c prog_15_method_132_code 6 (Option.none : Option Jvm.ClassFile.FieldType) "StaveHouseModel") {rec72 : Int → Int → Int → Int → Int → zF → zB → zO} (hrec72 : ∀ {l5 : Int} {l4 : Int} {l3 : Int} {l1 : Int} {l2 : Int} {F : zF} {B : zB} {H : Heap} {locs : List Loc} {ls : Array Slot}, rec72 l5 l4 l3 l1 l2 F B = some (r, F9, B9) → zH D ca ad lnM nM L F B A H → va_S A s.heap H locs → lv_has ls 6 [(5, .int (iI l5)), (4, .int (iI l4)), (3, .int (iI l3)), (0, .ref (ad 14 0 0)), (1, .ref (ad 13 l1 0)), (2, .int (iI l2))] → W p l e ({ frames := 6, cells := 0, slots := 0, locals := 127 } : Room) s m args below meth c H locs 0 0 (MQ below (Q_M_voiceTrack D ca ad L r F9 B9 A) args s 0 0 A) (F0 m 72 ls [])) {l5 : Int} {l4 : Int} {l3 : Int} {l1 : Int} {l2 : Int} {s1 : Int} {s2 : Int} {F : zF} {B : zB} {H : Heap} {locs : List Loc} {ls : Array Slot} (hf : f_M_voiceTrack_114 rec72 K l5 l4 l3 l1 l2 s1 s2 F B = some (r, F9, B9)) (hZ : zH D ca ad lnM nM L F B A H) (hS : va_S A s.heap H locs) (hl : lv_has ls 6 [(5, .int (iI l5)), (4, .int (iI l4)), (3, .int (iI l3)), (0, .ref (ad 14 0 0)), (1, .ref (ad 13 l1 0)), (2, .int (iI l2))]) : W p l e ({ frames := 6, cells := 0, slots := 0, locals := 127 } : Room) s m args below meth c H locs 0 0 (MQ below (Q_M_voiceTrack D ca ad L r F9 B9 A) args s 0 0 A) (F0 m 114 ls [.int (iI s2), .int (iI s1), .ref (ad 14 0 0)]) := by
  obtain ⟨hx, hb, hr, hml, hown, hts, hlk, hK, hA, hL, hX⟩ := id X
  replace hf : (zbind (f_M_delta K (s1 - s2) F B) (fun r23 F23 B23 => if r32 l4 then (if 0 ≤ l4 then f_M_voiceTrack_132 rec72 K l5 l3 l1 l2 F23 B23 else zbind (f_M_put_0 K (144 + l2) F23 B23) (fun r26 F26 B26 => f_M_voiceTrack_132 rec72 K l5 l3 l1 l2 F26 B26)) else none)) = some (r, F9, B9) := hf
  refine zsub hx hb (D_100 W_prog_15_method_132_code_96 18 rfl rfl) ?_
  obtain ⟨r23, F23, B23, hc23, hf⟩ := gbind hf
  refine va_callv (va_runV (As := [.int (iI (s1 - s2))]) (rest := []) ⟨hx, hb, hml, hown, hts⟩ (c_M_delta (l := l) hc23) (cwV 1 hts (gdV k_12_226 k_12_228 ks_148 k_1_9 k_12_229) rfl rfl rfl (by decide +kernel) ⟨Nat.le_of_ble_eq_true rfl, Nat.le_of_ble_eq_true rfl⟩) (zPV X hZ hS (ci := 14) (by decide) (by decide) (r := (RX14, TX14, 107)) rfl [.int (iI (s1 - s2))]) rfl rfl hl.1 rfl (lv_room (Nat.le_of_ble_eq_true rfl)) (D_182 W_prog_15_method_132_code_96 19 rfl rfl rfl) ⟨Nat.le_of_ble_eq_true rfl, Nat.le_of_ble_eq_true rfl⟩) hS (fun q _ h => zAin X hS q h) (zAin X hS) (fun u23 t23 H23 locs23 ht23 hv23 hw23 hB23 hz23 hk23 hS23 => ?_)
  have hZ23 := zBack X ht23 hB23
  refine lv_iload hx hb (D_21 W_prog_15_method_132_code_96 22 rfl rfl) (lv_at hl 1 rfl) ?_
  obtain ⟨g24, hf⟩ := gif hf
  refine z0ge (tgt := 132) hx hb g24 (D_156 W_prog_15_method_132_code_96 24 rfl rfl rfl) (by decide) (fun h25 => ?_) (fun h25 => ?_)
  · replace hf := gpos hf h25
    exact b_M_voiceTrack_132 X hrec72 hf hZ23 hS23 (lv_sub hl [0, 2, 3, 4, 5] rfl)
  · replace hf := gneg hf h25
    refine lv_aload_n hx hb (D_42 W_prog_15_method_132_code_96 27 rfl rfl) rfl (lv_at hl 3 rfl) ?_
    refine lv_sipush (v := iI 144) hx hb (D_17 W_prog_15_method_132_code_96 28 rfl rfl rfl) (by decide) ?_
    refine lv_iload_n hx hb (D_28 W_prog_15_method_132_code_96 31 rfl rfl) rfl (lv_at hl 5 rfl) ?_
    refine zadd hx hb (D_96 W_prog_15_method_132_code_128 0 rfl rfl) ?_
    obtain ⟨r26, F26, B26, hc26, hf⟩ := gbind hf
    refine va_callv (va_runV (As := [.int (iI (144 + l2))]) (rest := []) ⟨hx, hb, hml, hown, hts⟩ (c_M_put_0 (l := l) hc26) (cwV 1 hts (gdV k_12_199 k_12_201 ks_142 k_1_9 k_12_202) rfl rfl rfl (by decide +kernel) ⟨Nat.le_of_ble_eq_true rfl, Nat.le_of_ble_eq_true rfl⟩) (zPV X hZ23 hS23 (ci := 14) (by decide) (by decide) (r := (RX14, TX14, 107)) rfl [.int (iI (144 + l2))]) rfl rfl hl.1 rfl (lv_room (Nat.le_of_ble_eq_true rfl)) (D_182 W_prog_15_method_132_code_128 1 rfl rfl rfl) ⟨Nat.le_of_ble_eq_true rfl, Nat.le_of_ble_eq_true rfl⟩) hS23 (fun q _ h => zAin X hS23 q h) (zAin X hS23) (fun u26 t26 H26 locs26 ht26 hv26 hw26 hB26 hz26 hk26 hS26 => ?_)
    have hZ26 := zBack X ht26 hB26
    exact b_M_voiceTrack_132 X hrec72 hf hZ26 hS26 (lv_sub hl [0, 2, 3, 4, 5] rfl)

def f_M_voiceTrack_72 (K : Nat) : Nat → Int → Int → Int → Int → Int → zF → zB → zO
  | 0, _, _, _, _, _, _, _ => none
  | n + 1, l5, l4, l3, l1, l2, F, B => if 0 ≤ l1 ∧ l1 < 3 then if r32 l5 then if r32 (F 13 l1 60) then (if (F 13 l1 60) ≤ l5 then zbind (f_M_endTrack K l3 F B) (fun r16 F16 B16 => some (0, F16, B16)) else if 0 ≤ l5 ∧ l5 < 4000 then if r32 (B 13 l1 62 l5) then if r32 l2 then (if (B 13 l1 62 l5) = l2 then if r32 l4 then (if 0 ≤ l4 then f_M_voiceTrack_114 (f_M_voiceTrack_72 K n) K l5 l4 l3 l1 l2 (B 13 l1 61 l5) l4 F B else f_M_voiceTrack_114 (f_M_voiceTrack_72 K n) K l5 l4 l3 l1 l2 (B 13 l1 61 l5) 0 F B) else none else f_M_voiceTrack_163 (f_M_voiceTrack_72 K n) K l5 l4 l3 l1 l2 F B) else none else none else none) else none else none else none
set_option maxHeartbeats 4000000 in
set_option maxRecDepth 100000 in
theorem b_M_voiceTrack_72 {D : va_G} {ca : Nat → ClassId} {ad : Nat → Int → Nat → Nat} {L : List Nat} {aS vS : Nat → Nat} {A : Nat → Prop} {p : Program} {l : Launch} {e : Env} {s : State} {m : MethodId} {args : Array Value} {below : List Frame} {meth : Method} {c : Code} {K : Nat} {r : Int} {F9 : zF} {B9 : zB} (X : zX D ca L aS vS A p s m args meth c prog_15_method_132_code 6 (Option.none : Option Jvm.ClassFile.FieldType) "StaveHouseModel") : ∀ {n : Nat} {l5 : Int} {l4 : Int} {l3 : Int} {l1 : Int} {l2 : Int} {F : zF} {B : zB} {H : Heap} {locs : List Loc} {ls : Array Slot}, f_M_voiceTrack_72 K n l5 l4 l3 l1 l2 F B = some (r, F9, B9) → zH D ca ad lnM nM L F B A H → va_S A s.heap H locs → lv_has ls 6 [(5, .int (iI l5)), (4, .int (iI l4)), (3, .int (iI l3)), (0, .ref (ad 14 0 0)), (1, .ref (ad 13 l1 0)), (2, .int (iI l2))] → W p l e ({ frames := 6, cells := 0, slots := 0, locals := 127 } : Room) s m args below meth c H locs 0 0 (MQ below (Q_M_voiceTrack D ca ad L r F9 B9 A) args s 0 0 A) (F0 m 72 ls []) := by
  obtain ⟨hx, hb, hr, hml, hown, hts, hlk, hK, hA, hL, hX⟩ := id X
  intro n
  induction n with
  | zero =>
    intros
    rename_i hf _ _ _
    cases hf
  | succ n ih =>
    intro l5 l4 l3 l1 l2 F B H locs ls hf hZ hS hl
    replace hf : (if 0 ≤ l1 ∧ l1 < 3 then if r32 l5 then if r32 (F 13 l1 60) then (if (F 13 l1 60) ≤ l5 then zbind (f_M_endTrack K l3 F B) (fun r16 F16 B16 => some (0, F16, B16)) else if 0 ≤ l5 ∧ l5 < 4000 then if r32 (B 13 l1 62 l5) then if r32 l2 then (if (B 13 l1 62 l5) = l2 then if r32 l4 then (if 0 ≤ l4 then f_M_voiceTrack_114 (f_M_voiceTrack_72 K n) K l5 l4 l3 l1 l2 (B 13 l1 61 l5) l4 F B else f_M_voiceTrack_114 (f_M_voiceTrack_72 K n) K l5 l4 l3 l1 l2 (B 13 l1 61 l5) 0 F B) else none else f_M_voiceTrack_163 (f_M_voiceTrack_72 K n) K l5 l4 l3 l1 l2 F B) else none else none else none) else none else none else none) = some (r, F9, B9) := hf
    refine lv_iload hx hb (D_21 W_prog_15_method_132_code_64 8 rfl rfl) (lv_at hl 0 rfl) ?_
    refine lv_aload_n hx hb (D_43 W_prog_15_method_132_code_64 10 rfl rfl) rfl (lv_at hl 4 rfl) ?_
    obtain ⟨g12, hf⟩ := gif hf
    refine zget (ci := 13) (C := RX13) (T := TX13) (v := .int (iI (F 13 l1 60))) (k := 60) hx hb hts inW_13 hown hK hZ g12.1 g12.2 rfl (by decide) k_9_233 rfl (D_180 W_prog_15_method_132_code_64 11 rfl rfl rfl) ?_
    obtain ⟨g13, hf⟩ := gif hf
    obtain ⟨g14, hf⟩ := gif hf
    refine zge (tgt := 169) hx hb g13 g14 (D_162 W_prog_15_method_132_code_64 14 rfl rfl rfl) (by decide) (fun h15 => ?_) (fun h15 => ?_)
    · replace hf := gpos hf h15
      refine lv_aload_n hx hb (D_42 W_prog_15_method_132_code_160 9 rfl rfl) rfl (lv_at hl 3 rfl) ?_
      refine lv_iload_n hx hb (D_29 W_prog_15_method_132_code_160 10 rfl rfl) rfl (lv_at hl 2 rfl) ?_
      obtain ⟨r16, F16, B16, hc16, hf⟩ := gbind hf
      refine va_callv (va_runV (As := [.int (iI l3)]) (rest := []) ⟨hx, hb, hml, hown, hts⟩ (c_M_endTrack (l := l) hc16) (cwV 1 hts (gdV k_12_213 k_12_215 ks_145 k_1_9 k_12_216) rfl rfl rfl (by decide +kernel) ⟨Nat.le_of_ble_eq_true rfl, Nat.le_of_ble_eq_true rfl⟩) (zPV X hZ hS (ci := 14) (by decide) (by decide) (r := (RX14, TX14, 107)) rfl [.int (iI l3)]) rfl rfl hl.1 rfl (lv_room (Nat.le_of_ble_eq_true rfl)) (D_182 W_prog_15_method_132_code_160 11 rfl rfl rfl) ⟨Nat.le_of_ble_eq_true rfl, Nat.le_of_ble_eq_true rfl⟩) hS (fun q _ h => zAin X hS q h) (zAin X hS) (fun u16 t16 H16 locs16 ht16 hv16 hw16 hB16 hz16 hk16 hS16 => ?_)
      have hZ16 := zBack X ht16 hB16
      cases hf
      exact W.vret hx hb hr (fun t ht hW => ⟨⟨(), rfl, trivial, by rw [ht]; exact hZ16, va_K.moved hW.alike hK⟩, hS16.F ht⟩) hS16.2.2 (D_177 W_prog_15_method_132_code_160 14 rfl rfl) hlk
    · replace hf := gneg hf h15
      refine lv_aload_n hx hb (D_43 W_prog_15_method_132_code_64 17 rfl rfl) rfl (lv_at hl 4 rfl) ?_
      refine zget (ci := 13) (C := RX13) (T := TX13) (v := .ref (ad 13 l1 (62 + 1))) (k := 62) hx hb hts inW_13 hown hK hZ g12.1 g12.2 rfl (by decide) k_9_237 rfl (D_180 W_prog_15_method_132_code_64 18 rfl rfl rfl) ?_
      refine lv_iload hx hb (D_21 W_prog_15_method_132_code_64 21 rfl rfl) (lv_at hl 0 rfl) ?_
      obtain ⟨g17, hf⟩ := gif hf
      refine zald (ci := 13) (k := 62) hx hb hK rfl hZ g12.1 g12.2 rfl (Nat.le_of_ble_eq_true rfl) g17.1 g17.2 (D_46 W_prog_15_method_132_code_64 23 rfl rfl) ?_
      refine lv_iload_n hx hb (D_28 W_prog_15_method_132_code_64 24 rfl rfl) rfl (lv_at hl 5 rfl) ?_
      obtain ⟨g18, hf⟩ := gif hf
      obtain ⟨g19, hf⟩ := gif hf
      refine zeq (tgt := 95) hx hb g18 g19 (D_159 W_prog_15_method_132_code_64 25 rfl rfl rfl) (by decide) (fun h20 => ?_) (fun h20 => ?_)
      · replace hf := gpos hf h20
        refine lv_aload_n hx hb (D_42 W_prog_15_method_132_code_64 31 rfl rfl) rfl (lv_at hl 3 rfl) ?_
        refine lv_aload_n hx hb (D_43 W_prog_15_method_132_code_96 0 rfl rfl) rfl (lv_at hl 4 rfl) ?_
        refine zget (ci := 13) (C := RX13) (T := TX13) (v := .ref (ad 13 l1 (61 + 1))) (k := 61) hx hb hts inW_13 hown hK hZ g12.1 g12.2 rfl (by decide) k_9_235 rfl (D_180 W_prog_15_method_132_code_96 1 rfl rfl rfl) ?_
        refine lv_iload hx hb (D_21 W_prog_15_method_132_code_96 4 rfl rfl) (lv_at hl 0 rfl) ?_
        refine zald (ci := 13) (k := 61) hx hb hK rfl hZ g12.1 g12.2 rfl (Nat.le_of_ble_eq_true rfl) g17.1 g17.2 (D_46 W_prog_15_method_132_code_96 6 rfl rfl) ?_
        refine lv_iload hx hb (D_21 W_prog_15_method_132_code_96 7 rfl rfl) (lv_at hl 1 rfl) ?_
        obtain ⟨g21, hf⟩ := gif hf
        refine z0ge (tgt := 112) hx hb g21 (D_156 W_prog_15_method_132_code_96 9 rfl rfl rfl) (by decide) (fun h22 => ?_) (fun h22 => ?_)
        · replace hf := gpos hf h22
          refine lv_iload hx hb (D_21 W_prog_15_method_132_code_96 16 rfl rfl) (lv_at hl 1 rfl) ?_
          exact b_M_voiceTrack_114 X ih hf hZ hS (lv_sub hl [0, 1, 2, 3, 4, 5] rfl)
        · replace hf := gneg hf h22
          refine lv_iconst (v := iI 0) hx hb (D_3 W_prog_15_method_132_code_96 12 rfl rfl) rfl ?_
          refine lv_goto (tgt := 114) hx hb (D_167 W_prog_15_method_132_code_96 13 rfl rfl rfl) (by decide) ?_
          exact b_M_voiceTrack_114 X ih hf hZ hS (lv_sub hl [0, 1, 2, 3, 4, 5] rfl)
      · replace hf := gneg hf h20
        refine lv_goto (tgt := 163) hx hb (D_167 W_prog_15_method_132_code_64 28 rfl rfl rfl) (by decide) ?_
        exact b_M_voiceTrack_163 X ih hf hZ hS (lv_sub hl [0, 1, 2, 3, 4, 5] rfl)

def f_M_voiceTrack (K : Nat) (l1 : Int) (l2 : Int) (F : zF) (B : zB) : zO := zbind (f_M_beginTrack K F B) (fun r1 F1 B1 => zbind (f_M_put_0 K 0 F1 B1) (fun r2 F2 B2 => zbind (f_M_put_0 K 255 F2 B2) (fun r3 F3 B3 => zbind (f_M_put_0 K 3 F3 B3) (fun r4 F4 B4 => if 0 ≤ l1 ∧ l1 < 3 then if 0 ≤ l2 ∧ l2 < 4 then zbind (f_M_put_0 K (B4 13 l1 11 l2) F4 B4) (fun r7 F7 B7 => zbind (f_M_word K (B7 13 l1 10 l2) F7 B7) (fun r8 F8 B8 => zbind (f_M_put_0 K 0 F8 B8) (fun r9 F9 B9 => zbind (f_M_put_0 K (192 + l2) F9 B9) (fun r10 F10 B10 => zbind (f_M_put_0 K (B10 13 l1 9 l2) F10 B10) (fun r11 F11 B11 => f_M_voiceTrack_72 K K 0 (-1) r1 l1 l2 F11 B11))))) else none else none))))
set_option maxHeartbeats 4000000 in
set_option maxRecDepth 100000 in
theorem c_M_voiceTrack {l : Launch} {D : va_G} {ca : Nat → ClassId} {ad : Nat → Int → Nat → Nat} {L : List Nat} {aS vS : Nat → Nat} {sz K : Nat}  {l1 : Int} {l2 : Int} {F F9 : zF} {B B9 : zB} {r : Int} (hf : f_M_voiceTrack K l1 l2 F B = some (r, F9, B9)) : Met l ({ cls := "StaveHouseModel", name := "voiceTrack", desc := "(LStaveHouseModel$Piece;I)V" } : Jvm.MethodName) (Cond.code ({ cls := "StaveHouseModel", name := "voiceTrack", desc := "(LStaveHouseModel$Piece;I)V" } : Jvm.MethodName) prog_15_method_132_code 6 (Option.none : Option Jvm.ClassFile.FieldType) :: wAll) ({ frames := 6, cells := 0, slots := 0, locals := 127 } : Room) (va_Pc [.ref (ad 14 0 0), .ref (ad 13 l1 0), .int (iI l2)] (zPre D ca ad lnM nM L aS vS F B sz)) (Q_M_voiceTrack D ca ad L r F9 B9 (zA L sz)) 0 0 (zA L sz) := by
  refine zMet (Qc := Q_M_voiceTrack D ca ad L r F9 B9) (lv := [(0, .ref (ad 14 0 0)), (1, .ref (ad 13 l1 0)), (2, .int (iI l2))]) (by decide) (Nat.le_of_ble_eq_true rfl) rfl (fun A p e s m below meth c ls X hZ hS hl => ?_)
  obtain ⟨hx, hb, hr, hml, hown, hts, hlk, hK, hA, hL, hX⟩ := id X
  replace hf : (zbind (f_M_beginTrack K F B) (fun r1 F1 B1 => zbind (f_M_put_0 K 0 F1 B1) (fun r2 F2 B2 => zbind (f_M_put_0 K 255 F2 B2) (fun r3 F3 B3 => zbind (f_M_put_0 K 3 F3 B3) (fun r4 F4 B4 => if 0 ≤ l1 ∧ l1 < 3 then if 0 ≤ l2 ∧ l2 < 4 then zbind (f_M_put_0 K (B4 13 l1 11 l2) F4 B4) (fun r7 F7 B7 => zbind (f_M_word K (B7 13 l1 10 l2) F7 B7) (fun r8 F8 B8 => zbind (f_M_put_0 K 0 F8 B8) (fun r9 F9 B9 => zbind (f_M_put_0 K (192 + l2) F9 B9) (fun r10 F10 B10 => zbind (f_M_put_0 K (B10 13 l1 9 l2) F10 B10) (fun r11 F11 B11 => f_M_voiceTrack_72 K K 0 (-1) r1 l1 l2 F11 B11))))) else none else none))))) = some (r, F9, B9) := hf
  refine lv_aload_n hx hb (D_42 W_prog_15_method_132_code_0 0 rfl rfl) rfl (lv_at hl 0 rfl) ?_
  obtain ⟨r1, F1, B1, hc1, hf⟩ := gbind hf
  refine va_calli (va_runV (As := []) (rest := []) ⟨hx, hb, hml, hown, hts⟩ (c_M_beginTrack (l := l) hc1) (cwV 0 hts (gdV k_12_207 k_12_209 ks_144 k_1_9 k_12_210) rfl rfl rfl (by decide +kernel) ⟨Nat.le_of_ble_eq_true rfl, Nat.le_of_ble_eq_true rfl⟩) (zPV X hZ hS (ci := 14) (by decide) (by decide) (r := (RX14, TX14, 107)) rfl []) rfl rfl hl.1 rfl (lv_room (Nat.le_of_ble_eq_true rfl)) (D_182 W_prog_15_method_132_code_0 1 rfl rfl rfl) ⟨Nat.le_of_ble_eq_true rfl, Nat.le_of_ble_eq_true rfl⟩) hS (fun q _ h => zAin X hS q h) (zAin X hS) (fun p1 u1 t1 H1 locs1 ht1 hv1 hw1 hB1 hz1 hk1 hS1 => ?_)
  have hZ1 := zBack X ht1 hB1
  subst hw1
  refine lv_istore_n (lv' := [(3, .int (iI r1)), (0, .ref (ad 14 0 0)), (1, .ref (ad 13 l1 0)), (2, .int (iI l2))]) hx hb (D_62 W_prog_15_method_132_code_0 4 rfl rfl) rfl hl (by decide) rfl (fun ls hl => ?_)
  refine lv_aload_n hx hb (D_42 W_prog_15_method_132_code_0 5 rfl rfl) rfl (lv_at hl 1 rfl) ?_
  refine lv_iconst (v := iI 0) hx hb (D_3 W_prog_15_method_132_code_0 6 rfl rfl) rfl ?_
  obtain ⟨r2, F2, B2, hc2, hf⟩ := gbind hf
  refine va_callv (va_runV (As := [.int (iI 0)]) (rest := []) ⟨hx, hb, hml, hown, hts⟩ (c_M_put_0 (l := l) hc2) (cwV 1 hts (gdV k_12_199 k_12_201 ks_142 k_1_9 k_12_202) rfl rfl rfl (by decide +kernel) ⟨Nat.le_of_ble_eq_true rfl, Nat.le_of_ble_eq_true rfl⟩) (zPV X hZ1 hS1 (ci := 14) (by decide) (by decide) (r := (RX14, TX14, 107)) rfl [.int (iI 0)]) rfl rfl hl.1 rfl (lv_room (Nat.le_of_ble_eq_true rfl)) (D_182 W_prog_15_method_132_code_0 7 rfl rfl rfl) ⟨Nat.le_of_ble_eq_true rfl, Nat.le_of_ble_eq_true rfl⟩) hS1 (fun q _ h => zAin X hS1 q h) (zAin X hS1) (fun u2 t2 H2 locs2 ht2 hv2 hw2 hB2 hz2 hk2 hS2 => ?_)
  have hZ2 := zBack X ht2 hB2
  refine lv_aload_n hx hb (D_42 W_prog_15_method_132_code_0 10 rfl rfl) rfl (lv_at hl 1 rfl) ?_
  refine lv_sipush (v := iI 255) hx hb (D_17 W_prog_15_method_132_code_0 11 rfl rfl rfl) (by decide) ?_
  obtain ⟨r3, F3, B3, hc3, hf⟩ := gbind hf
  refine va_callv (va_runV (As := [.int (iI 255)]) (rest := []) ⟨hx, hb, hml, hown, hts⟩ (c_M_put_0 (l := l) hc3) (cwV 1 hts (gdV k_12_199 k_12_201 ks_142 k_1_9 k_12_202) rfl rfl rfl (by decide +kernel) ⟨Nat.le_of_ble_eq_true rfl, Nat.le_of_ble_eq_true rfl⟩) (zPV X hZ2 hS2 (ci := 14) (by decide) (by decide) (r := (RX14, TX14, 107)) rfl [.int (iI 255)]) rfl rfl hl.1 rfl (lv_room (Nat.le_of_ble_eq_true rfl)) (D_182 W_prog_15_method_132_code_0 14 rfl rfl rfl) ⟨Nat.le_of_ble_eq_true rfl, Nat.le_of_ble_eq_true rfl⟩) hS2 (fun q _ h => zAin X hS2 q h) (zAin X hS2) (fun u3 t3 H3 locs3 ht3 hv3 hw3 hB3 hz3 hk3 hS3 => ?_)
  have hZ3 := zBack X ht3 hB3
  refine lv_aload_n hx hb (D_42 W_prog_15_method_132_code_0 17 rfl rfl) rfl (lv_at hl 1 rfl) ?_
  refine lv_iconst (v := iI 3) hx hb (D_6 W_prog_15_method_132_code_0 18 rfl rfl) rfl ?_
  obtain ⟨r4, F4, B4, hc4, hf⟩ := gbind hf
  refine va_callv (va_runV (As := [.int (iI 3)]) (rest := []) ⟨hx, hb, hml, hown, hts⟩ (c_M_put_0 (l := l) hc4) (cwV 1 hts (gdV k_12_199 k_12_201 ks_142 k_1_9 k_12_202) rfl rfl rfl (by decide +kernel) ⟨Nat.le_of_ble_eq_true rfl, Nat.le_of_ble_eq_true rfl⟩) (zPV X hZ3 hS3 (ci := 14) (by decide) (by decide) (r := (RX14, TX14, 107)) rfl [.int (iI 3)]) rfl rfl hl.1 rfl (lv_room (Nat.le_of_ble_eq_true rfl)) (D_182 W_prog_15_method_132_code_0 19 rfl rfl rfl) ⟨Nat.le_of_ble_eq_true rfl, Nat.le_of_ble_eq_true rfl⟩) hS3 (fun q _ h => zAin X hS3 q h) (zAin X hS3) (fun u4 t4 H4 locs4 ht4 hv4 hw4 hB4 hz4 hk4 hS4 => ?_)
  have hZ4 := zBack X ht4 hB4
  refine lv_aload_n hx hb (D_42 W_prog_15_method_132_code_0 22 rfl rfl) rfl (lv_at hl 1 rfl) ?_
  refine lv_aload_n hx hb (D_43 W_prog_15_method_132_code_0 23 rfl rfl) rfl (lv_at hl 2 rfl) ?_
  obtain ⟨g5, hf⟩ := gif hf
  refine zget (ci := 13) (C := RX13) (T := TX13) (v := .ref (ad 13 l1 (11 + 1))) (k := 11) hx hb hts inW_13 hown hK hZ4 g5.1 g5.2 rfl (by decide) k_9_140 rfl (D_180 W_prog_15_method_132_code_0 24 rfl rfl rfl) ?_
  refine lv_iload_n hx hb (D_28 W_prog_15_method_132_code_0 27 rfl rfl) rfl (lv_at hl 3 rfl) ?_
  obtain ⟨g6, hf⟩ := gif hf
  refine zald (ci := 13) (k := 11) hx hb hK rfl hZ4 g5.1 g5.2 rfl (Nat.le_of_ble_eq_true rfl) g6.1 g6.2 (D_46 W_prog_15_method_132_code_0 28 rfl rfl) ?_
  obtain ⟨r7, F7, B7, hc7, hf⟩ := gbind hf
  refine va_callv (va_runV (As := [.int (iI (B4 13 l1 11 l2))]) (rest := []) ⟨hx, hb, hml, hown, hts⟩ (c_M_put_0 (l := l) hc7) (cwV 1 hts (gdV k_12_199 k_12_201 ks_142 k_1_9 k_12_202) rfl rfl rfl (by decide +kernel) ⟨Nat.le_of_ble_eq_true rfl, Nat.le_of_ble_eq_true rfl⟩) (zPV X hZ4 hS4 (ci := 14) (by decide) (by decide) (r := (RX14, TX14, 107)) rfl [.int (iI (B4 13 l1 11 l2))]) rfl rfl hl.1 rfl (lv_room (Nat.le_of_ble_eq_true rfl)) (D_182 W_prog_15_method_132_code_0 29 rfl rfl rfl) ⟨Nat.le_of_ble_eq_true rfl, Nat.le_of_ble_eq_true rfl⟩) hS4 (fun q _ h => zAin X hS4 q h) (zAin X hS4) (fun u7 t7 H7 locs7 ht7 hv7 hw7 hB7 hz7 hk7 hS7 => ?_)
  have hZ7 := zBack X ht7 hB7
  refine lv_aload_n hx hb (D_42 W_prog_15_method_132_code_32 0 rfl rfl) rfl (lv_at hl 1 rfl) ?_
  refine lv_aload_n hx hb (D_43 W_prog_15_method_132_code_32 1 rfl rfl) rfl (lv_at hl 2 rfl) ?_
  refine zget (ci := 13) (C := RX13) (T := TX13) (v := .ref (ad 13 l1 (10 + 1))) (k := 10) hx hb hts inW_13 hown hK hZ7 g5.1 g5.2 rfl (by decide) k_9_138 rfl (D_180 W_prog_15_method_132_code_32 2 rfl rfl rfl) ?_
  refine lv_iload_n hx hb (D_28 W_prog_15_method_132_code_32 5 rfl rfl) rfl (lv_at hl 3 rfl) ?_
  refine zlald (ci := 13) (k := 10) hx hb hK rfl hZ7 g5.1 g5.2 rfl (Nat.le_of_ble_eq_true rfl) g6.1 g6.2 (D_47 W_prog_15_method_132_code_32 6 rfl rfl) ?_
  obtain ⟨r8, F8, B8, hc8, hf⟩ := gbind hf
  refine va_callv (va_runV (As := [.long (lI (B7 13 l1 10 l2))]) (rest := []) ⟨hx, hb, hml, hown, hts⟩ (c_M_word (l := l) hc8) (cwV 1 hts (gdV k_12_221 k_12_223 ks_147 k_1_9 k_12_224) rfl rfl rfl (by decide +kernel) ⟨Nat.le_of_ble_eq_true rfl, Nat.le_of_ble_eq_true rfl⟩) (zPV X hZ7 hS7 (ci := 14) (by decide) (by decide) (r := (RX14, TX14, 107)) rfl [.long (lI (B7 13 l1 10 l2))]) rfl rfl hl.1 rfl (lv_room (Nat.le_of_ble_eq_true rfl)) (D_182 W_prog_15_method_132_code_32 7 rfl rfl rfl) ⟨Nat.le_of_ble_eq_true rfl, Nat.le_of_ble_eq_true rfl⟩) hS7 (fun q _ h => zAin X hS7 q h) (zAin X hS7) (fun u8 t8 H8 locs8 ht8 hv8 hw8 hB8 hz8 hk8 hS8 => ?_)
  have hZ8 := zBack X ht8 hB8
  refine lv_aload_n hx hb (D_42 W_prog_15_method_132_code_32 10 rfl rfl) rfl (lv_at hl 1 rfl) ?_
  refine lv_iconst (v := iI 0) hx hb (D_3 W_prog_15_method_132_code_32 11 rfl rfl) rfl ?_
  obtain ⟨r9, F9, B9, hc9, hf⟩ := gbind hf
  refine va_callv (va_runV (As := [.int (iI 0)]) (rest := []) ⟨hx, hb, hml, hown, hts⟩ (c_M_put_0 (l := l) hc9) (cwV 1 hts (gdV k_12_199 k_12_201 ks_142 k_1_9 k_12_202) rfl rfl rfl (by decide +kernel) ⟨Nat.le_of_ble_eq_true rfl, Nat.le_of_ble_eq_true rfl⟩) (zPV X hZ8 hS8 (ci := 14) (by decide) (by decide) (r := (RX14, TX14, 107)) rfl [.int (iI 0)]) rfl rfl hl.1 rfl (lv_room (Nat.le_of_ble_eq_true rfl)) (D_182 W_prog_15_method_132_code_32 12 rfl rfl rfl) ⟨Nat.le_of_ble_eq_true rfl, Nat.le_of_ble_eq_true rfl⟩) hS8 (fun q _ h => zAin X hS8 q h) (zAin X hS8) (fun u9 t9 H9 locs9 ht9 hv9 hw9 hB9 hz9 hk9 hS9 => ?_)
  have hZ9 := zBack X ht9 hB9
  refine lv_aload_n hx hb (D_42 W_prog_15_method_132_code_32 15 rfl rfl) rfl (lv_at hl 1 rfl) ?_
  refine lv_sipush (v := iI 192) hx hb (D_17 W_prog_15_method_132_code_32 16 rfl rfl rfl) (by decide) ?_
  refine lv_iload_n hx hb (D_28 W_prog_15_method_132_code_32 19 rfl rfl) rfl (lv_at hl 3 rfl) ?_
  refine zadd hx hb (D_96 W_prog_15_method_132_code_32 20 rfl rfl) ?_
  obtain ⟨r10, F10, B10, hc10, hf⟩ := gbind hf
  refine va_callv (va_runV (As := [.int (iI (192 + l2))]) (rest := []) ⟨hx, hb, hml, hown, hts⟩ (c_M_put_0 (l := l) hc10) (cwV 1 hts (gdV k_12_199 k_12_201 ks_142 k_1_9 k_12_202) rfl rfl rfl (by decide +kernel) ⟨Nat.le_of_ble_eq_true rfl, Nat.le_of_ble_eq_true rfl⟩) (zPV X hZ9 hS9 (ci := 14) (by decide) (by decide) (r := (RX14, TX14, 107)) rfl [.int (iI (192 + l2))]) rfl rfl hl.1 rfl (lv_room (Nat.le_of_ble_eq_true rfl)) (D_182 W_prog_15_method_132_code_32 21 rfl rfl rfl) ⟨Nat.le_of_ble_eq_true rfl, Nat.le_of_ble_eq_true rfl⟩) hS9 (fun q _ h => zAin X hS9 q h) (zAin X hS9) (fun u10 t10 H10 locs10 ht10 hv10 hw10 hB10 hz10 hk10 hS10 => ?_)
  have hZ10 := zBack X ht10 hB10
  refine lv_aload_n hx hb (D_42 W_prog_15_method_132_code_32 24 rfl rfl) rfl (lv_at hl 1 rfl) ?_
  refine lv_aload_n hx hb (D_43 W_prog_15_method_132_code_32 25 rfl rfl) rfl (lv_at hl 2 rfl) ?_
  refine zget (ci := 13) (C := RX13) (T := TX13) (v := .ref (ad 13 l1 (9 + 1))) (k := 9) hx hb hts inW_13 hown hK hZ10 g5.1 g5.2 rfl (by decide) k_9_136 rfl (D_180 W_prog_15_method_132_code_32 26 rfl rfl rfl) ?_
  refine lv_iload_n hx hb (D_28 W_prog_15_method_132_code_32 29 rfl rfl) rfl (lv_at hl 3 rfl) ?_
  refine zald (ci := 13) (k := 9) hx hb hK rfl hZ10 g5.1 g5.2 rfl (Nat.le_of_ble_eq_true rfl) g6.1 g6.2 (D_46 W_prog_15_method_132_code_32 30 rfl rfl) ?_
  obtain ⟨r11, F11, B11, hc11, hf⟩ := gbind hf
  refine va_callv (va_runV (As := [.int (iI (B10 13 l1 9 l2))]) (rest := []) ⟨hx, hb, hml, hown, hts⟩ (c_M_put_0 (l := l) hc11) (cwV 1 hts (gdV k_12_199 k_12_201 ks_142 k_1_9 k_12_202) rfl rfl rfl (by decide +kernel) ⟨Nat.le_of_ble_eq_true rfl, Nat.le_of_ble_eq_true rfl⟩) (zPV X hZ10 hS10 (ci := 14) (by decide) (by decide) (r := (RX14, TX14, 107)) rfl [.int (iI (B10 13 l1 9 l2))]) rfl rfl hl.1 rfl (lv_room (Nat.le_of_ble_eq_true rfl)) (D_182 W_prog_15_method_132_code_32 31 rfl rfl rfl) ⟨Nat.le_of_ble_eq_true rfl, Nat.le_of_ble_eq_true rfl⟩) hS10 (fun q _ h => zAin X hS10 q h) (zAin X hS10) (fun u11 t11 H11 locs11 ht11 hv11 hw11 hB11 hz11 hk11 hS11 => ?_)
  have hZ11 := zBack X ht11 hB11
  refine lv_iconst (v := iI (-1)) hx hb (D_2 W_prog_15_method_132_code_64 2 rfl rfl) rfl ?_
  refine lv_istore (lv' := [(4, .int (iI (-1))), (3, .int (iI r1)), (0, .ref (ad 14 0 0)), (1, .ref (ad 13 l1 0)), (2, .int (iI l2))]) hx hb (D_54 W_prog_15_method_132_code_64 3 rfl rfl) hl (by decide) rfl (fun ls hl => ?_)
  refine lv_iconst (v := iI 0) hx hb (D_3 W_prog_15_method_132_code_64 5 rfl rfl) rfl ?_
  refine lv_istore (lv' := [(5, .int (iI 0)), (4, .int (iI (-1))), (3, .int (iI r1)), (0, .ref (ad 14 0 0)), (1, .ref (ad 13 l1 0)), (2, .int (iI l2))]) hx hb (D_54 W_prog_15_method_132_code_64 6 rfl rfl) hl (by decide) rfl (fun ls hl => ?_)
  exact b_M_voiceTrack_72 X hf hZ11 hS11 (lv_sub hl [0, 1, 2, 3, 4, 5] rfl)

abbrev Q_M_next (D : va_G) (ca : Nat → ClassId) (ad : Nat → Int → Nat → Nat) (L : List Nat) (r : Int) (F : zF) (B : zB) (A : Nat → Prop) : Array Value → State → Outcome → State → Prop := va_Qi (S := Unit) (fun p _ => p = iI r) (fun _ => zPo D ca ad lnM nM L F B A) A
def f_M_next_60 (K : Nat) (s1 : Int) (s2 : Int) (F : zF) (B : zB) : zO := if r32 s2 then zbind (f_M_failByte K s1 s2 F B) (fun r17 F17 B17 => some (0, F17, B17)) else none
set_option maxHeartbeats 4000000 in
set_option maxRecDepth 100000 in
theorem b_M_next_60 {D : va_G} {ca : Nat → ClassId} {ad : Nat → Int → Nat → Nat} {L : List Nat} {aS vS : Nat → Nat} {A : Nat → Prop} {p : Program} {l : Launch} {e : Env} {s : State} {m : MethodId} {args : Array Value} {below : List Frame} {meth : Method} {c : Code} {K : Nat} {r : Int} {F9 : zF} {B9 : zB} (X : zX D ca L aS vS A p s m args meth c prog_15_method_136_code 1 (Option.some Jvm.ClassFile.FieldType.int) "StaveHouseModel") {s1 : Int} {s2 : Int} {F : zF} {B : zB} {H : Heap} {locs : List Loc} {ls : Array Slot} (hf : f_M_next_60 K s1 s2 F B = some (r, F9, B9)) (hZ : zH D ca ad lnM nM L F B A H) (hS : va_S A s.heap H locs) (hl : lv_has ls 1 []) : W p l e ({ frames := 1, cells := 0, slots := 0, locals := 22 } : Room) s m args below meth c H locs 0 0 (MQ below (Q_M_next D ca ad L r F9 B9 A) args s 0 0 A) (F0 m 60 ls [.long (lI s2), .int (iI s1), .ref (ad 14 0 0)]) := by
  obtain ⟨hx, hb, hr, hml, hown, hts, hlk, hK, hA, hL, hX⟩ := id X
  replace hf : (if r32 s2 then zbind (f_M_failByte K s1 s2 F B) (fun r17 F17 B17 => some (0, F17, B17)) else none) = some (r, F9, B9) := hf
  obtain ⟨g16, hf⟩ := gif hf
  refine zl2i hx hb g16 (D_136 W_prog_15_method_136_code_32 28 rfl rfl) ?_
  obtain ⟨r17, F17, B17, hc17, hf⟩ := gbind hf
  refine va_callv (va_runV (As := [.int (iI s1), .int (iI s2)]) (rest := []) ⟨hx, hb, hml, hown, hts⟩ (c_M_failByte (l := l) hc17) (cwV 2 hts (gdV k_13_19 k_13_21 ks_153 k_1_9 k_13_22) rfl rfl rfl (by decide +kernel) ⟨Nat.le_of_ble_eq_true rfl, Nat.le_of_ble_eq_true rfl⟩) (zPV X hZ hS (ci := 14) (by decide) (by decide) (r := (RX14, TX14, 107)) rfl [.int (iI s1), .int (iI s2)]) rfl rfl hl.1 rfl (lv_room (Nat.le_of_ble_eq_true rfl)) (D_182 W_prog_15_method_136_code_32 29 rfl rfl rfl) ⟨Nat.le_of_ble_eq_true rfl, Nat.le_of_ble_eq_true rfl⟩) hS (fun q _ h => zAin X hS q h) (zAin X hS) (fun u17 t17 H17 locs17 ht17 hv17 hw17 hB17 hz17 hk17 hS17 => ?_)
  have hZ17 := zBack X ht17 hB17
  refine lv_iconst (v := iI 0) hx hb (D_3 W_prog_15_method_136_code_64 0 rfl rfl) rfl ?_
  cases hf
  exact W.iret hx hb hr (fun t ht hW => ⟨⟨_, (), rfl, rfl, by rw [ht]; exact hZ17, va_K.moved hW.alike hK⟩, hS17.F ht⟩) hS17.2.2 (D_172 W_prog_15_method_136_code_64 1 rfl rfl) hlk

def f_M_next_33 (K : Nat)  (F : zF) (B : zB) : zO := if r32 (F 14 0 3) then if r64 (F 14 0 90) then if r64 (F 14 0 3) then (if 0 ≤ (zcmp (F 14 0 90) (F 14 0 3)) then f_M_next_60 K 2 (F 14 0 3) F B else f_M_next_60 K 2 (F 14 0 90) F B) else none else none else none
set_option maxHeartbeats 4000000 in
set_option maxRecDepth 100000 in
theorem b_M_next_33 {D : va_G} {ca : Nat → ClassId} {ad : Nat → Int → Nat → Nat} {L : List Nat} {aS vS : Nat → Nat} {A : Nat → Prop} {p : Program} {l : Launch} {e : Env} {s : State} {m : MethodId} {args : Array Value} {below : List Frame} {meth : Method} {c : Code} {K : Nat} {r : Int} {F9 : zF} {B9 : zB} (X : zX D ca L aS vS A p s m args meth c prog_15_method_136_code 1 (Option.some Jvm.ClassFile.FieldType.int) "StaveHouseModel")  {F : zF} {B : zB} {H : Heap} {locs : List Loc} {ls : Array Slot} (hf : f_M_next_33 K  F B = some (r, F9, B9)) (hZ : zH D ca ad lnM nM L F B A H) (hS : va_S A s.heap H locs) (hl : lv_has ls 1 [(0, .ref (ad 14 0 0))]) : W p l e ({ frames := 1, cells := 0, slots := 0, locals := 22 } : Room) s m args below meth c H locs 0 0 (MQ below (Q_M_next D ca ad L r F9 B9 A) args s 0 0 A) (F0 m 33 ls []) := by
  obtain ⟨hx, hb, hr, hml, hown, hts, hlk, hK, hA, hL, hX⟩ := id X
  replace hf : (if r32 (F 14 0 3) then if r64 (F 14 0 90) then if r64 (F 14 0 3) then (if 0 ≤ (zcmp (F 14 0 90) (F 14 0 3)) then f_M_next_60 K 2 (F 14 0 3) F B else f_M_next_60 K 2 (F 14 0 90) F B) else none else none else none) = some (r, F9, B9) := hf
  refine lv_aload_n hx hb (D_42 W_prog_15_method_136_code_32 1 rfl rfl) rfl (lv_at hl 0 rfl) ?_
  refine lv_iconst (v := iI 2) hx hb (D_5 W_prog_15_method_136_code_32 2 rfl rfl) rfl ?_
  refine lv_aload_n hx hb (D_42 W_prog_15_method_136_code_32 3 rfl rfl) rfl (lv_at hl 0 rfl) ?_
  refine zget (ci := 14) (C := RX14) (T := TX14) (v := .long (lI (F 14 0 90))) (k := 90) hx hb hts inW_14 hown hK hZ (by decide) (by decide) rfl (by decide) k_11_88 rfl (D_180 W_prog_15_method_136_code_32 4 rfl rfl rfl) ?_
  refine lv_aload_n hx hb (D_42 W_prog_15_method_136_code_32 7 rfl rfl) rfl (lv_at hl 0 rfl) ?_
  refine zget (ci := 14) (C := RX14) (T := TX14) (v := .int (iI (F 14 0 3))) (k := 3) hx hb hts inW_14 hown hK hZ (by decide) (by decide) rfl (by decide) k_11_1 rfl (D_180 W_prog_15_method_136_code_32 8 rfl rfl rfl) ?_
  obtain ⟨g12, hf⟩ := gif hf
  refine zi2l hx hb g12 (D_133 W_prog_15_method_136_code_32 11 rfl rfl) ?_
  obtain ⟨g13, hf⟩ := gif hf
  obtain ⟨g14, hf⟩ := gif hf
  refine zcmp_r hx hb g13 g14 (D_148 W_prog_15_method_136_code_32 12 rfl rfl) ?_
  refine z0ge (tgt := 55) hx hb zcmp_32 (D_156 W_prog_15_method_136_code_32 13 rfl rfl rfl) (by decide) (fun h15 => ?_) (fun h15 => ?_)
  · replace hf := gpos hf h15
    refine lv_aload_n hx hb (D_42 W_prog_15_method_136_code_32 23 rfl rfl) rfl (lv_at hl 0 rfl) ?_
    refine zget (ci := 14) (C := RX14) (T := TX14) (v := .int (iI (F 14 0 3))) (k := 3) hx hb hts inW_14 hown hK hZ (by decide) (by decide) rfl (by decide) k_11_1 rfl (D_180 W_prog_15_method_136_code_32 24 rfl rfl rfl) ?_
    refine zi2l hx hb g12 (D_133 W_prog_15_method_136_code_32 27 rfl rfl) ?_
    exact b_M_next_60 X hf hZ hS (lv_sub hl [] rfl)
  · replace hf := gneg hf h15
    refine lv_aload_n hx hb (D_42 W_prog_15_method_136_code_32 16 rfl rfl) rfl (lv_at hl 0 rfl) ?_
    refine zget (ci := 14) (C := RX14) (T := TX14) (v := .long (lI (F 14 0 90))) (k := 90) hx hb hts inW_14 hown hK hZ (by decide) (by decide) rfl (by decide) k_11_88 rfl (D_180 W_prog_15_method_136_code_32 17 rfl rfl rfl) ?_
    refine lv_goto (tgt := 60) hx hb (D_167 W_prog_15_method_136_code_32 20 rfl rfl rfl) (by decide) ?_
    exact b_M_next_60 X hf hZ hS (lv_sub hl [] rfl)

def f_M_next (K : Nat)  (F : zF) (B : zB) : zO := zbind (f_M_good K F B) (fun r1 F1 B1 => if r32 r1 then (if r1 = 0 then some (0, F1, B1) else if r32 (F1 14 0 89) then if r64 (F1 14 0 89) then if r64 (F1 14 0 90) then (if 0 ≤ (zcmp (F1 14 0 89) (F1 14 0 90)) then f_M_next_33 K F1 B1 else if r32 (F1 14 0 3) then (if (F1 14 0 89) < (F1 14 0 3) then zbind (f_M_byteAt K (((F1 14 0 89) + 1) - 1) (zup3 F1 14 0 89 ((F1 14 0 89) + 1)) B1) (fun r11 F11 B11 => some (r11, F11, B11)) else f_M_next_33 K F1 B1) else none) else none else none else none) else none)
set_option maxHeartbeats 4000000 in
set_option maxRecDepth 100000 in
theorem c_M_next {l : Launch} {D : va_G} {ca : Nat → ClassId} {ad : Nat → Int → Nat → Nat} {L : List Nat} {aS vS : Nat → Nat} {sz K : Nat}   {F F9 : zF} {B B9 : zB} {r : Int} (hf : f_M_next K  F B = some (r, F9, B9)) : Met l ({ cls := "StaveHouseModel", name := "next", desc := "()I" } : Jvm.MethodName) (Cond.code ({ cls := "StaveHouseModel", name := "next", desc := "()I" } : Jvm.MethodName) prog_15_method_136_code 1 (Option.some Jvm.ClassFile.FieldType.int) :: wAll) ({ frames := 1, cells := 0, slots := 0, locals := 22 } : Room) (va_Pc [.ref (ad 14 0 0)] (zPre D ca ad lnM nM L aS vS F B sz)) (Q_M_next D ca ad L r F9 B9 (zA L sz)) 0 0 (zA L sz) := by
  refine zMet (Qc := Q_M_next D ca ad L r F9 B9) (lv := [(0, .ref (ad 14 0 0))]) (by decide) (Nat.le_of_ble_eq_true rfl) rfl (fun A p e s m below meth c ls X hZ hS hl => ?_)
  obtain ⟨hx, hb, hr, hml, hown, hts, hlk, hK, hA, hL, hX⟩ := id X
  replace hf : (zbind (f_M_good K F B) (fun r1 F1 B1 => if r32 r1 then (if r1 = 0 then some (0, F1, B1) else if r32 (F1 14 0 89) then if r64 (F1 14 0 89) then if r64 (F1 14 0 90) then (if 0 ≤ (zcmp (F1 14 0 89) (F1 14 0 90)) then f_M_next_33 K F1 B1 else if r32 (F1 14 0 3) then (if (F1 14 0 89) < (F1 14 0 3) then zbind (f_M_byteAt K (((F1 14 0 89) + 1) - 1) (zup3 F1 14 0 89 ((F1 14 0 89) + 1)) B1) (fun r11 F11 B11 => some (r11, F11, B11)) else f_M_next_33 K F1 B1) else none) else none else none else none) else none)) = some (r, F9, B9) := hf
  refine lv_aload_n hx hb (D_42 W_prog_15_method_136_code_0 0 rfl rfl) rfl (lv_at hl 0 rfl) ?_
  obtain ⟨r1, F1, B1, hc1, hf⟩ := gbind hf
  refine va_calli (va_runV (As := []) (rest := []) ⟨hx, hb, hml, hown, hts⟩ (c_M_good (l := l) hc1) (cwV 0 hts (gdV k_13_15 k_13_17 ks_152 k_1_9 k_13_18) rfl rfl rfl (by decide +kernel) ⟨Nat.le_of_ble_eq_true rfl, Nat.le_of_ble_eq_true rfl⟩) (zPV X hZ hS (ci := 14) (by decide) (by decide) (r := (RX14, TX14, 107)) rfl []) rfl rfl hl.1 rfl (lv_room (Nat.le_of_ble_eq_true rfl)) (D_182 W_prog_15_method_136_code_0 1 rfl rfl rfl) ⟨Nat.le_of_ble_eq_true rfl, Nat.le_of_ble_eq_true rfl⟩) hS (fun q _ h => zAin X hS q h) (zAin X hS) (fun p1 u1 t1 H1 locs1 ht1 hv1 hw1 hB1 hz1 hk1 hS1 => ?_)
  have hZ1 := zBack X ht1 hB1
  subst hw1
  obtain ⟨g2, hf⟩ := gif hf
  refine z0ne (tgt := 9) hx hb g2 (D_154 W_prog_15_method_136_code_0 4 rfl rfl rfl) (by decide) (fun h3 => ?_) (fun h3 => ?_)
  · replace hf := gneg hf h3
    refine lv_aload_n hx hb (D_42 W_prog_15_method_136_code_0 9 rfl rfl) rfl (lv_at hl 0 rfl) ?_
    refine zget (ci := 14) (C := RX14) (T := TX14) (v := .int (iI (F1 14 0 89))) (k := 89) hx hb hts inW_14 hown hK hZ1 (by decide) (by decide) rfl (by decide) k_11_87 rfl (D_180 W_prog_15_method_136_code_0 10 rfl rfl rfl) ?_
    obtain ⟨g4, hf⟩ := gif hf
    refine zi2l hx hb g4 (D_133 W_prog_15_method_136_code_0 13 rfl rfl) ?_
    refine lv_aload_n hx hb (D_42 W_prog_15_method_136_code_0 14 rfl rfl) rfl (lv_at hl 0 rfl) ?_
    refine zget (ci := 14) (C := RX14) (T := TX14) (v := .long (lI (F1 14 0 90))) (k := 90) hx hb hts inW_14 hown hK hZ1 (by decide) (by decide) rfl (by decide) k_11_88 rfl (D_180 W_prog_15_method_136_code_0 15 rfl rfl rfl) ?_
    obtain ⟨g5, hf⟩ := gif hf
    obtain ⟨g6, hf⟩ := gif hf
    refine zcmp_r hx hb g5 g6 (D_148 W_prog_15_method_136_code_0 18 rfl rfl) ?_
    refine z0ge (tgt := 33) hx hb zcmp_32 (D_156 W_prog_15_method_136_code_0 19 rfl rfl rfl) (by decide) (fun h7 => ?_) (fun h7 => ?_)
    · replace hf := gpos hf h7
      exact b_M_next_33 X hf hZ1 hS1 (lv_sub hl [0] rfl)
    · replace hf := gneg hf h7
      refine lv_aload_n hx hb (D_42 W_prog_15_method_136_code_0 22 rfl rfl) rfl (lv_at hl 0 rfl) ?_
      refine zget (ci := 14) (C := RX14) (T := TX14) (v := .int (iI (F1 14 0 89))) (k := 89) hx hb hts inW_14 hown hK hZ1 (by decide) (by decide) rfl (by decide) k_11_87 rfl (D_180 W_prog_15_method_136_code_0 23 rfl rfl rfl) ?_
      refine lv_aload_n hx hb (D_42 W_prog_15_method_136_code_0 26 rfl rfl) rfl (lv_at hl 0 rfl) ?_
      refine zget (ci := 14) (C := RX14) (T := TX14) (v := .int (iI (F1 14 0 3))) (k := 3) hx hb hts inW_14 hown hK hZ1 (by decide) (by decide) rfl (by decide) k_11_1 rfl (D_180 W_prog_15_method_136_code_0 27 rfl rfl rfl) ?_
      obtain ⟨g8, hf⟩ := gif hf
      refine zlt (tgt := 66) hx hb g4 g8 (D_161 W_prog_15_method_136_code_0 30 rfl rfl rfl) (by decide) (fun h9 => ?_) (fun h9 => ?_)
      · replace hf := gpos hf h9
        refine lv_aload_n hx hb (D_42 W_prog_15_method_136_code_64 2 rfl rfl) rfl (lv_at hl 0 rfl) ?_
        refine lv_dup hx hb (D_89 W_prog_15_method_136_code_64 3 rfl rfl) rfl ?_
        refine zget (ci := 14) (C := RX14) (T := TX14) (v := .int (iI (F1 14 0 89))) (k := 89) hx hb hts inW_14 hown hK hZ1 (by decide) (by decide) rfl (by decide) k_11_87 rfl (D_180 W_prog_15_method_136_code_64 4 rfl rfl rfl) ?_
        refine lv_iconst (v := iI 1) hx hb (D_4 W_prog_15_method_136_code_64 7 rfl rfl) rfl ?_
        refine zadd hx hb (D_96 W_prog_15_method_136_code_64 8 rfl rfl) ?_
        refine zput (ci := 14) (C := RX14) (T := TX14) (k := 89) (v := ((F1 14 0 89) + 1)) (w := .int (iI ((F1 14 0 89) + 1))) hx hb hts inW_14 tyX14 tyX14_ok nmX14 hown hK hZ1 hS1 (by decide) (by decide) rfl (by decide) k_11_87 rfl (fun G h => congrArg (fun q => Value.int (iI q)) h) rfl rfl (zno (by decide)) (D_181 W_prog_15_method_136_code_64 9 rfl rfl rfl) (fun H10 locs10 hZ10 hS10 => ?_)
        refine lv_aload_n hx hb (D_42 W_prog_15_method_136_code_64 12 rfl rfl) rfl (lv_at hl 0 rfl) ?_
        refine lv_aload_n hx hb (D_42 W_prog_15_method_136_code_64 13 rfl rfl) rfl (lv_at hl 0 rfl) ?_
        refine zget (ci := 14) (C := RX14) (T := TX14) (v := .int (iI ((F1 14 0 89) + 1))) (k := 89) hx hb hts inW_14 hown hK hZ10 (by decide) (by decide) rfl (by decide) k_11_87 rfl (D_180 W_prog_15_method_136_code_64 14 rfl rfl rfl) ?_
        refine lv_iconst (v := iI 1) hx hb (D_4 W_prog_15_method_136_code_64 17 rfl rfl) rfl ?_
        refine zsub hx hb (D_100 W_prog_15_method_136_code_64 18 rfl rfl) ?_
        obtain ⟨r11, F11, B11, hc11, hf⟩ := gbind hf
        refine va_calli (va_runV (As := [.int (iI (((F1 14 0 89) + 1) - 1))]) (rest := []) ⟨hx, hb, hml, hown, hts⟩ (c_M_byteAt (l := l) hc11) (cwV 1 hts (gdV k_13_23 k_13_25 ks_154 k_1_9 k_13_26) rfl rfl rfl (by decide +kernel) ⟨Nat.le_of_ble_eq_true rfl, Nat.le_of_ble_eq_true rfl⟩) (zPV X hZ10 hS10 (ci := 14) (by decide) (by decide) (r := (RX14, TX14, 107)) rfl [.int (iI (((F1 14 0 89) + 1) - 1))]) rfl rfl hl.1 rfl (lv_room (Nat.le_of_ble_eq_true rfl)) (D_182 W_prog_15_method_136_code_64 19 rfl rfl rfl) ⟨Nat.le_of_ble_eq_true rfl, Nat.le_of_ble_eq_true rfl⟩) hS10 (fun q _ h => zAin X hS10 q h) (zAin X hS10) (fun p11 u11 t11 H11 locs11 ht11 hv11 hw11 hB11 hz11 hk11 hS11 => ?_)
        have hZ11 := zBack X ht11 hB11
        subst hw11
        cases hf
        exact W.iret hx hb hr (fun t ht hW => ⟨⟨_, (), rfl, rfl, by rw [ht]; exact hZ11, va_K.moved hW.alike hK⟩, hS11.F ht⟩) hS11.2.2 (D_172 W_prog_15_method_136_code_64 22 rfl rfl) hlk
      · replace hf := gneg hf h9
        exact b_M_next_33 X hf hZ1 hS1 (lv_sub hl [0] rfl)
  · replace hf := gpos hf h3
    refine lv_iconst (v := iI 0) hx hb (D_3 W_prog_15_method_136_code_0 7 rfl rfl) rfl ?_
    cases hf
    exact W.iret hx hb hr (fun t ht hW => ⟨⟨_, (), rfl, rfl, by rw [ht]; exact hZ1, va_K.moved hW.alike hK⟩, hS1.F ht⟩) hS1.2.2 (D_172 W_prog_15_method_136_code_0 8 rfl rfl) hlk

abbrev Q_M_whole (D : va_G) (ca : Nat → ClassId) (ad : Nat → Int → Nat → Nat) (L : List Nat) (r : Int) (F : zF) (B : zB) (A : Nat → Prop) : Array Value → State → Outcome → State → Prop := va_Ql (S := Unit) (fun p _ => p = lI r) (fun _ => zPo D ca ad lnM nM L F B A) A
def f_M_whole_5 (K : Nat) : Nat → Int → Int → Int → zF → zB → zO
  | 0, _, _, _, _, _ => none
  | n + 1, l4, l2, l1, F, B => if r32 l4 then if r32 l1 then (if l1 ≤ l4 then some (l2, F, B) else zbind (f_M_next K F B) (fun r4 F4 B4 => if r32 r4 then f_M_whole_5 K n (l4 + 1) (zlor (zlshl l2 8) r4) l1 F4 B4 else none)) else none else none
set_option maxHeartbeats 4000000 in
set_option maxRecDepth 100000 in
theorem b_M_whole_5 {D : va_G} {ca : Nat → ClassId} {ad : Nat → Int → Nat → Nat} {L : List Nat} {aS vS : Nat → Nat} {A : Nat → Prop} {p : Program} {l : Launch} {e : Env} {s : State} {m : MethodId} {args : Array Value} {below : List Frame} {meth : Method} {c : Code} {K : Nat} {r : Int} {F9 : zF} {B9 : zB} (X : zX D ca L aS vS A p s m args meth c prog_15_method_138_code 5 (Option.some Jvm.ClassFile.FieldType.long) "StaveHouseModel") : ∀ {n : Nat} {l4 : Int} {l2 : Int} {l1 : Int} {F : zF} {B : zB} {H : Heap} {locs : List Loc} {ls : Array Slot}, f_M_whole_5 K n l4 l2 l1 F B = some (r, F9, B9) → zH D ca ad lnM nM L F B A H → va_S A s.heap H locs → lv_has ls 5 [(4, .int (iI l4)), (2, .long (lI l2)), (0, .ref (ad 14 0 0)), (1, .int (iI l1))] → W p l e ({ frames := 2, cells := 0, slots := 0, locals := 42 } : Room) s m args below meth c H locs 0 0 (MQ below (Q_M_whole D ca ad L r F9 B9 A) args s 0 0 A) (F0 m 5 ls []) := by
  obtain ⟨hx, hb, hr, hml, hown, hts, hlk, hK, hA, hL, hX⟩ := id X
  intro n
  induction n with
  | zero =>
    intros
    rename_i hf _ _ _
    cases hf
  | succ n ih =>
    intro l4 l2 l1 F B H locs ls hf hZ hS hl
    replace hf : (if r32 l4 then if r32 l1 then (if l1 ≤ l4 then some (l2, F, B) else zbind (f_M_next K F B) (fun r4 F4 B4 => if r32 r4 then f_M_whole_5 K n (l4 + 1) (zlor (zlshl l2 8) r4) l1 F4 B4 else none)) else none else none) = some (r, F9, B9) := hf
    refine lv_iload hx hb (D_21 W_prog_15_method_138_code_0 5 rfl rfl) (lv_at hl 0 rfl) ?_
    refine lv_iload_n hx hb (D_27 W_prog_15_method_138_code_0 7 rfl rfl) rfl (lv_at hl 3 rfl) ?_
    obtain ⟨g1, hf⟩ := gif hf
    obtain ⟨g2, hf⟩ := gif hf
    refine zge (tgt := 28) hx hb g1 g2 (D_162 W_prog_15_method_138_code_0 8 rfl rfl rfl) (by decide) (fun h3 => ?_) (fun h3 => ?_)
    · replace hf := gpos hf h3
      refine lv_lload_n hx hb (D_32 W_prog_15_method_138_code_0 28 rfl rfl) rfl (lv_at hl 1 rfl) ?_
      cases hf
      exact W.lret hx hb hr (fun t ht hW => ⟨⟨_, (), rfl, rfl, by rw [ht]; exact hZ, va_K.moved hW.alike hK⟩, hS.F ht⟩) hS.2.2 (D_173 W_prog_15_method_138_code_0 29 rfl rfl) hlk
    · replace hf := gneg hf h3
      refine lv_lload_n hx hb (D_32 W_prog_15_method_138_code_0 11 rfl rfl) rfl (lv_at hl 1 rfl) ?_
      refine lv_bipush (v := iI 8) hx hb (D_16 W_prog_15_method_138_code_0 12 rfl rfl rfl) (by decide) ?_
      refine zlshl_r hx hb (D_121 W_prog_15_method_138_code_0 14 rfl rfl) ?_
      refine lv_aload_n hx hb (D_42 W_prog_15_method_138_code_0 15 rfl rfl) rfl (lv_at hl 2 rfl) ?_
      obtain ⟨r4, F4, B4, hc4, hf⟩ := gbind hf
      refine va_calli (va_runV (As := []) (rest := [.long (lI (zlshl l2 8))]) ⟨hx, hb, hml, hown, hts⟩ (c_M_next (l := l) hc4) (cwV 0 hts (gdV k_13_11 k_13_13 ks_151 k_1_9 k_13_14) rfl rfl rfl (by decide +kernel) ⟨Nat.le_of_ble_eq_true rfl, Nat.le_of_ble_eq_true rfl⟩) (zPV X hZ hS (ci := 14) (by decide) (by decide) (r := (RX14, TX14, 107)) rfl []) rfl rfl hl.1 rfl (lv_room (Nat.le_of_ble_eq_true rfl)) (D_182 W_prog_15_method_138_code_0 16 rfl rfl rfl) ⟨Nat.le_of_ble_eq_true rfl, Nat.le_of_ble_eq_true rfl⟩) hS (fun q _ h => zAin X hS q h) (zAin X hS) (fun p4 u4 t4 H4 locs4 ht4 hv4 hw4 hB4 hz4 hk4 hS4 => ?_)
      have hZ4 := zBack X ht4 hB4
      subst hw4
      obtain ⟨g5, hf⟩ := gif hf
      refine zi2l hx hb g5 (D_133 W_prog_15_method_138_code_0 19 rfl rfl) ?_
      refine zlor_r hx hb (D_129 W_prog_15_method_138_code_0 20 rfl rfl) ?_
      refine lv_lstore_n (lv' := [(2, .long (lI (zlor (zlshl l2 8) r4))), (4, .int (iI l4)), (0, .ref (ad 14 0 0)), (1, .int (iI l1))]) hx hb (D_65 W_prog_15_method_138_code_0 21 rfl rfl) rfl hl (by decide) rfl (fun ls hl => ?_)
      refine lv_iinc (v := iI (l4 + 1)) (lv' := [(4, .int (iI (l4 + 1))), (2, .long (lI (zlor (zlshl l2 8) r4))), (0, .ref (ad 14 0 0)), (1, .int (iI l1))]) hx hb d_15_138_22 hl (k := 1) rfl (iI_add _ 1) (by decide) rfl (fun ls hl => ?_)
      refine lv_goto (tgt := 5) hx hb (D_167 W_prog_15_method_138_code_0 25 rfl rfl rfl) (by decide) ?_
      exact ih hf hZ4 hS4 (lv_sub hl [0, 1, 2, 3] rfl)

def f_M_whole (K : Nat) (l1 : Int) (F : zF) (B : zB) : zO := f_M_whole_5 K K 0 0 l1 F B
set_option maxHeartbeats 4000000 in
set_option maxRecDepth 100000 in
theorem c_M_whole {l : Launch} {D : va_G} {ca : Nat → ClassId} {ad : Nat → Int → Nat → Nat} {L : List Nat} {aS vS : Nat → Nat} {sz K : Nat}  {l1 : Int} {F F9 : zF} {B B9 : zB} {r : Int} (hf : f_M_whole K l1 F B = some (r, F9, B9)) : Met l ({ cls := "StaveHouseModel", name := "whole", desc := "(I)J" } : Jvm.MethodName) (Cond.code ({ cls := "StaveHouseModel", name := "whole", desc := "(I)J" } : Jvm.MethodName) prog_15_method_138_code 5 (Option.some Jvm.ClassFile.FieldType.long) :: wAll) ({ frames := 2, cells := 0, slots := 0, locals := 42 } : Room) (va_Pc [.ref (ad 14 0 0), .int (iI l1)] (zPre D ca ad lnM nM L aS vS F B sz)) (Q_M_whole D ca ad L r F9 B9 (zA L sz)) 0 0 (zA L sz) := by
  refine zMet (Qc := Q_M_whole D ca ad L r F9 B9) (lv := [(0, .ref (ad 14 0 0)), (1, .int (iI l1))]) (by decide) (Nat.le_of_ble_eq_true rfl) rfl (fun A p e s m below meth c ls X hZ hS hl => ?_)
  obtain ⟨hx, hb, hr, hml, hown, hts, hlk, hK, hA, hL, hX⟩ := id X
  replace hf : (f_M_whole_5 K K 0 0 l1 F B) = some (r, F9, B9) := hf
  refine lv_lconst (v := lI 0) hx hb (D_9 W_prog_15_method_138_code_0 0 rfl rfl) (by decide) ?_
  refine lv_lstore_n (lv' := [(2, .long (lI 0)), (0, .ref (ad 14 0 0)), (1, .int (iI l1))]) hx hb (D_65 W_prog_15_method_138_code_0 1 rfl rfl) rfl hl (by decide) rfl (fun ls hl => ?_)
  refine lv_iconst (v := iI 0) hx hb (D_3 W_prog_15_method_138_code_0 2 rfl rfl) rfl ?_
  refine lv_istore (lv' := [(4, .int (iI 0)), (2, .long (lI 0)), (0, .ref (ad 14 0 0)), (1, .int (iI l1))]) hx hb (D_54 W_prog_15_method_138_code_0 3 rfl rfl) hl (by decide) rfl (fun ls hl => ?_)
  exact b_M_whole_5 X hf hZ hS (lv_sub hl [0, 1, 2, 3] rfl)

abbrev Q_M_within (D : va_G) (ca : Nat → ClassId) (ad : Nat → Int → Nat → Nat) (L : List Nat) (r : Int) (F : zF) (B : zB) (A : Nat → Prop) : Array Value → State → Outcome → State → Prop := va_Qi (S := Unit) (fun p _ => p = iI r) (fun _ => zPo D ca ad lnM nM L F B A) A
def f_M_within_43 (K : Nat) (l5 : Int) (F : zF) (B : zB) : zO := if r32 l5 then some (l5, F, B) else none
set_option maxHeartbeats 4000000 in
set_option maxRecDepth 100000 in
theorem b_M_within_43 {D : va_G} {ca : Nat → ClassId} {ad : Nat → Int → Nat → Nat} {L : List Nat} {aS vS : Nat → Nat} {A : Nat → Prop} {p : Program} {l : Launch} {e : Env} {s : State} {m : MethodId} {args : Array Value} {below : List Frame} {meth : Method} {c : Code} {K : Nat} {r : Int} {F9 : zF} {B9 : zB} (X : zX D ca L aS vS A p s m args meth c prog_15_method_139_code 7 (Option.some Jvm.ClassFile.FieldType.int) "StaveHouseModel") {l5 : Int} {F : zF} {B : zB} {H : Heap} {locs : List Loc} {ls : Array Slot} (hf : f_M_within_43 K l5 F B = some (r, F9, B9)) (hZ : zH D ca ad lnM nM L F B A H) (hS : va_S A s.heap H locs) (hl : lv_has ls 7 [(5, .long (lI l5))]) : W p l e ({ frames := 3, cells := 0, slots := 0, locals := 66 } : Room) s m args below meth c H locs 0 0 (MQ below (Q_M_within D ca ad L r F9 B9 A) args s 0 0 A) (F0 m 43 ls []) := by
  obtain ⟨hx, hb, hr, hml, hown, hts, hlk, hK, hA, hL, hX⟩ := id X
  replace hf : (if r32 l5 then some (l5, F, B) else none) = some (r, F9, B9) := hf
  refine lv_lload hx hb (D_22 W_prog_15_method_139_code_32 11 rfl rfl) (lv_at hl 0 rfl) ?_
  obtain ⟨g13, hf⟩ := gif hf
  refine zl2i hx hb g13 (D_136 W_prog_15_method_139_code_32 13 rfl rfl) ?_
  cases hf
  exact W.iret hx hb hr (fun t ht hW => ⟨⟨_, (), rfl, rfl, by rw [ht]; exact hZ, va_K.moved hW.alike hK⟩, hS.F ht⟩) hS.2.2 (D_172 W_prog_15_method_139_code_32 14 rfl rfl) hlk

def f_M_within_36 (K : Nat) (l5 : Int) (l4 : Int) (F : zF) (B : zB) : zO := zbind (f_M_failByte K 3 l4 F B) (fun r12 F12 B12 => f_M_within_43 K l5 F12 B12)
set_option maxHeartbeats 4000000 in
set_option maxRecDepth 100000 in
theorem b_M_within_36 {D : va_G} {ca : Nat → ClassId} {ad : Nat → Int → Nat → Nat} {L : List Nat} {aS vS : Nat → Nat} {A : Nat → Prop} {p : Program} {l : Launch} {e : Env} {s : State} {m : MethodId} {args : Array Value} {below : List Frame} {meth : Method} {c : Code} {K : Nat} {r : Int} {F9 : zF} {B9 : zB} (X : zX D ca L aS vS A p s m args meth c prog_15_method_139_code 7 (Option.some Jvm.ClassFile.FieldType.int) "StaveHouseModel") {l5 : Int} {l4 : Int} {F : zF} {B : zB} {H : Heap} {locs : List Loc} {ls : Array Slot} (hf : f_M_within_36 K l5 l4 F B = some (r, F9, B9)) (hZ : zH D ca ad lnM nM L F B A H) (hS : va_S A s.heap H locs) (hl : lv_has ls 7 [(5, .long (lI l5)), (4, .int (iI l4)), (0, .ref (ad 14 0 0))]) : W p l e ({ frames := 3, cells := 0, slots := 0, locals := 66 } : Room) s m args below meth c H locs 0 0 (MQ below (Q_M_within D ca ad L r F9 B9 A) args s 0 0 A) (F0 m 36 ls []) := by
  obtain ⟨hx, hb, hr, hml, hown, hts, hlk, hK, hA, hL, hX⟩ := id X
  replace hf : (zbind (f_M_failByte K 3 l4 F B) (fun r12 F12 B12 => f_M_within_43 K l5 F12 B12)) = some (r, F9, B9) := hf
  refine lv_aload_n hx hb (D_42 W_prog_15_method_139_code_32 4 rfl rfl) rfl (lv_at hl 2 rfl) ?_
  refine lv_iconst (v := iI 3) hx hb (D_6 W_prog_15_method_139_code_32 5 rfl rfl) rfl ?_
  refine lv_iload hx hb (D_21 W_prog_15_method_139_code_32 6 rfl rfl) (lv_at hl 1 rfl) ?_
  obtain ⟨r12, F12, B12, hc12, hf⟩ := gbind hf
  refine va_callv (va_runV (As := [.int (iI 3), .int (iI l4)]) (rest := []) ⟨hx, hb, hml, hown, hts⟩ (c_M_failByte (l := l) hc12) (cwV 2 hts (gdV k_13_19 k_13_21 ks_153 k_1_9 k_13_22) rfl rfl rfl (by decide +kernel) ⟨Nat.le_of_ble_eq_true rfl, Nat.le_of_ble_eq_true rfl⟩) (zPV X hZ hS (ci := 14) (by decide) (by decide) (r := (RX14, TX14, 107)) rfl [.int (iI 3), .int (iI l4)]) rfl rfl hl.1 rfl (lv_room (Nat.le_of_ble_eq_true rfl)) (D_182 W_prog_15_method_139_code_32 8 rfl rfl rfl) ⟨Nat.le_of_ble_eq_true rfl, Nat.le_of_ble_eq_true rfl⟩) hS (fun q _ h => zAin X hS q h) (zAin X hS) (fun u12 t12 H12 locs12 ht12 hv12 hw12 hB12 hz12 hk12 hS12 => ?_)
  have hZ12 := zBack X ht12 hB12
  exact b_M_within_43 X hf hZ12 hS12 (lv_sub hl [0] rfl)

def f_M_within (K : Nat) (l1 : Int) (l2 : Int) (l3 : Int) (F : zF) (B : zB) : zO := zbind (f_M_whole K l1 F B) (fun r1 F1 B1 => zbind (f_M_good K F1 B1) (fun r2 F2 B2 => if r32 r2 then (if r2 = 0 then f_M_within_43 K r1 F2 B2 else if r32 l2 then if r64 r1 then if r64 l2 then (if (zcmp r1 l2) < 0 then f_M_within_36 K r1 (F 14 0 89) F2 B2 else if r32 l3 then if r64 l3 then (if (zcmp r1 l3) ≤ 0 then f_M_within_43 K r1 F2 B2 else f_M_within_36 K r1 (F 14 0 89) F2 B2) else none else none) else none else none else none) else none))
set_option maxHeartbeats 4000000 in
set_option maxRecDepth 100000 in
theorem c_M_within {l : Launch} {D : va_G} {ca : Nat → ClassId} {ad : Nat → Int → Nat → Nat} {L : List Nat} {aS vS : Nat → Nat} {sz K : Nat}  {l1 : Int} {l2 : Int} {l3 : Int} {F F9 : zF} {B B9 : zB} {r : Int} (hf : f_M_within K l1 l2 l3 F B = some (r, F9, B9)) : Met l ({ cls := "StaveHouseModel", name := "within", desc := "(III)I" } : Jvm.MethodName) (Cond.code ({ cls := "StaveHouseModel", name := "within", desc := "(III)I" } : Jvm.MethodName) prog_15_method_139_code 7 (Option.some Jvm.ClassFile.FieldType.int) :: wAll) ({ frames := 3, cells := 0, slots := 0, locals := 66 } : Room) (va_Pc [.ref (ad 14 0 0), .int (iI l1), .int (iI l2), .int (iI l3)] (zPre D ca ad lnM nM L aS vS F B sz)) (Q_M_within D ca ad L r F9 B9 (zA L sz)) 0 0 (zA L sz) := by
  refine zMet (Qc := Q_M_within D ca ad L r F9 B9) (lv := [(0, .ref (ad 14 0 0)), (1, .int (iI l1)), (2, .int (iI l2)), (3, .int (iI l3))]) (by decide) (Nat.le_of_ble_eq_true rfl) rfl (fun A p e s m below meth c ls X hZ hS hl => ?_)
  obtain ⟨hx, hb, hr, hml, hown, hts, hlk, hK, hA, hL, hX⟩ := id X
  replace hf : (zbind (f_M_whole K l1 F B) (fun r1 F1 B1 => zbind (f_M_good K F1 B1) (fun r2 F2 B2 => if r32 r2 then (if r2 = 0 then f_M_within_43 K r1 F2 B2 else if r32 l2 then if r64 r1 then if r64 l2 then (if (zcmp r1 l2) < 0 then f_M_within_36 K r1 (F 14 0 89) F2 B2 else if r32 l3 then if r64 l3 then (if (zcmp r1 l3) ≤ 0 then f_M_within_43 K r1 F2 B2 else f_M_within_36 K r1 (F 14 0 89) F2 B2) else none else none) else none else none else none) else none))) = some (r, F9, B9) := hf
  refine lv_aload_n hx hb (D_42 W_prog_15_method_139_code_0 0 rfl rfl) rfl (lv_at hl 0 rfl) ?_
  refine zget (ci := 14) (C := RX14) (T := TX14) (v := .int (iI (F 14 0 89))) (k := 89) hx hb hts inW_14 hown hK hZ (by decide) (by decide) rfl (by decide) k_11_87 rfl (D_180 W_prog_15_method_139_code_0 1 rfl rfl rfl) ?_
  refine lv_istore (lv' := [(4, .int (iI (F 14 0 89))), (0, .ref (ad 14 0 0)), (1, .int (iI l1)), (2, .int (iI l2)), (3, .int (iI l3))]) hx hb (D_54 W_prog_15_method_139_code_0 4 rfl rfl) hl (by decide) rfl (fun ls hl => ?_)
  refine lv_aload_n hx hb (D_42 W_prog_15_method_139_code_0 6 rfl rfl) rfl (lv_at hl 1 rfl) ?_
  refine lv_iload_n hx hb (D_27 W_prog_15_method_139_code_0 7 rfl rfl) rfl (lv_at hl 2 rfl) ?_
  obtain ⟨r1, F1, B1, hc1, hf⟩ := gbind hf
  refine va_calll (va_runV (As := [.int (iI l1)]) (rest := []) ⟨hx, hb, hml, hown, hts⟩ (c_M_whole (l := l) hc1) (cwV 1 hts (gdV k_13_27 k_13_29 ks_155 k_1_9 k_13_30) rfl rfl rfl (by decide +kernel) ⟨Nat.le_of_ble_eq_true rfl, Nat.le_of_ble_eq_true rfl⟩) (zPV X hZ hS (ci := 14) (by decide) (by decide) (r := (RX14, TX14, 107)) rfl [.int (iI l1)]) rfl rfl hl.1 rfl (lv_room (Nat.le_of_ble_eq_true rfl)) (D_182 W_prog_15_method_139_code_0 8 rfl rfl rfl) ⟨Nat.le_of_ble_eq_true rfl, Nat.le_of_ble_eq_true rfl⟩) hS (fun q _ h => zAin X hS q h) (zAin X hS) (fun p1 u1 t1 H1 locs1 ht1 hv1 hw1 hB1 hz1 hk1 hS1 => ?_)
  have hZ1 := zBack X ht1 hB1
  subst hw1
  refine lv_lstore (lv' := [(5, .long (lI r1)), (4, .int (iI (F 14 0 89))), (0, .ref (ad 14 0 0)), (1, .int (iI l1)), (2, .int (iI l2)), (3, .int (iI l3))]) hx hb (D_55 W_prog_15_method_139_code_0 11 rfl rfl) hl (by decide) rfl (fun ls hl => ?_)
  refine lv_aload_n hx hb (D_42 W_prog_15_method_139_code_0 13 rfl rfl) rfl (lv_at hl 2 rfl) ?_
  obtain ⟨r2, F2, B2, hc2, hf⟩ := gbind hf
  refine va_calli (va_runV (As := []) (rest := []) ⟨hx, hb, hml, hown, hts⟩ (c_M_good (l := l) hc2) (cwV 0 hts (gdV k_13_15 k_13_17 ks_152 k_1_9 k_13_18) rfl rfl rfl (by decide +kernel) ⟨Nat.le_of_ble_eq_true rfl, Nat.le_of_ble_eq_true rfl⟩) (zPV X hZ1 hS1 (ci := 14) (by decide) (by decide) (r := (RX14, TX14, 107)) rfl []) rfl rfl hl.1 rfl (lv_room (Nat.le_of_ble_eq_true rfl)) (D_182 W_prog_15_method_139_code_0 14 rfl rfl rfl) ⟨Nat.le_of_ble_eq_true rfl, Nat.le_of_ble_eq_true rfl⟩) hS1 (fun q _ h => zAin X hS1 q h) (zAin X hS1) (fun p2 u2 t2 H2 locs2 ht2 hv2 hw2 hB2 hz2 hk2 hS2 => ?_)
  have hZ2 := zBack X ht2 hB2
  subst hw2
  obtain ⟨g3, hf⟩ := gif hf
  refine z0eq (tgt := 43) hx hb g3 (D_153 W_prog_15_method_139_code_0 17 rfl rfl rfl) (by decide) (fun h4 => ?_) (fun h4 => ?_)
  · replace hf := gpos hf h4
    exact b_M_within_43 X hf hZ2 hS2 (lv_sub hl [0] rfl)
  · replace hf := gneg hf h4
    refine lv_lload hx hb (D_22 W_prog_15_method_139_code_0 20 rfl rfl) (lv_at hl 0 rfl) ?_
    refine lv_iload_n hx hb (D_28 W_prog_15_method_139_code_0 22 rfl rfl) rfl (lv_at hl 4 rfl) ?_
    obtain ⟨g5, hf⟩ := gif hf
    refine zi2l hx hb g5 (D_133 W_prog_15_method_139_code_0 23 rfl rfl) ?_
    obtain ⟨g6, hf⟩ := gif hf
    obtain ⟨g7, hf⟩ := gif hf
    refine zcmp_r hx hb g6 g7 (D_148 W_prog_15_method_139_code_0 24 rfl rfl) ?_
    refine z0lt (tgt := 36) hx hb zcmp_32 (D_155 W_prog_15_method_139_code_0 25 rfl rfl rfl) (by decide) (fun h8 => ?_) (fun h8 => ?_)
    · replace hf := gpos hf h8
      exact b_M_within_36 X hf hZ2 hS2 (lv_sub hl [0, 1, 2] rfl)
    · replace hf := gneg hf h8
      refine lv_lload hx hb (D_22 W_prog_15_method_139_code_0 28 rfl rfl) (lv_at hl 0 rfl) ?_
      refine lv_iload_n hx hb (D_29 W_prog_15_method_139_code_0 30 rfl rfl) rfl (lv_at hl 5 rfl) ?_
      obtain ⟨g9, hf⟩ := gif hf
      refine zi2l hx hb g9 (D_133 W_prog_15_method_139_code_0 31 rfl rfl) ?_
      obtain ⟨g10, hf⟩ := gif hf
      refine zcmp_r hx hb g6 g10 (D_148 W_prog_15_method_139_code_32 0 rfl rfl) ?_
      refine z0le (tgt := 43) hx hb zcmp_32 (D_158 W_prog_15_method_139_code_32 1 rfl rfl rfl) (by decide) (fun h11 => ?_) (fun h11 => ?_)
      · replace hf := gpos hf h11
        exact b_M_within_43 X hf hZ2 hS2 (lv_sub hl [0] rfl)
      · replace hf := gneg hf h11
        exact b_M_within_36 X hf hZ2 hS2 (lv_sub hl [0, 1, 2] rfl)

abbrev Q_M_isTrack (D : va_G) (ca : Nat → ClassId) (ad : Nat → Int → Nat → Nat) (L : List Nat) (r : Int) (F : zF) (B : zB) (A : Nat → Prop) : Array Value → State → Outcome → State → Prop := va_Qi (S := Unit) (fun p _ => p = iI r) (fun _ => zPo D ca ad lnM nM L F B A) A
def f_M_isTrack_22 (K : Nat) (s0 : Int) (F : zF) (B : zB) : zO := if (s0 = 0 ∨ s0 = 1) then some (s0, F, B) else none
set_option maxHeartbeats 4000000 in
set_option maxRecDepth 100000 in
theorem b_M_isTrack_22 {D : va_G} {ca : Nat → ClassId} {ad : Nat → Int → Nat → Nat} {L : List Nat} {aS vS : Nat → Nat} {A : Nat → Prop} {p : Program} {l : Launch} {e : Env} {s : State} {m : MethodId} {args : Array Value} {below : List Frame} {meth : Method} {c : Code} {K : Nat} {r : Int} {F9 : zF} {B9 : zB} (X : zX D ca L aS vS A p s m args meth c prog_15_method_142_code 3 (Option.some Jvm.ClassFile.FieldType.boolean) "StaveHouseModel") {s0 : Int} {F : zF} {B : zB} {H : Heap} {locs : List Loc} {ls : Array Slot} (hf : f_M_isTrack_22 K s0 F B = some (r, F9, B9)) (hZ : zH D ca ad lnM nM L F B A H) (hS : va_S A s.heap H locs) (hl : lv_has ls 3 []) : W p l e ({ frames := 5, cells := 0, slots := 0, locals := 108 } : Room) s m args below meth c H locs 0 0 (MQ below (Q_M_isTrack D ca ad L r F9 B9 A) args s 0 0 A) (F0 m 22 ls [.int (iI s0)]) := by
  obtain ⟨hx, hb, hr, hml, hown, hts, hlk, hK, hA, hL, hX⟩ := id X
  replace hf : (if (s0 = 0 ∨ s0 = 1) then some (s0, F, B) else none) = some (r, F9, B9) := hf
  obtain ⟨g6, hf⟩ := gif hf
  cases hf
  exact W.zret hx hb hr (zbool g6) (fun t ht hW => ⟨⟨_, (), rfl, rfl, by rw [ht]; exact hZ, va_K.moved hW.alike hK⟩, hS.F ht⟩) hS.2.2 (D_172 W_prog_15_method_142_code_0 22 rfl rfl) hlk

def f_M_isTrack (K : Nat)  (F : zF) (B : zB) : zO := zbind (f_M_whole K 4 F B) (fun r1 F1 B1 => zbind (f_M_code K 37 F1 B1) (fun r2 F2 B2 => if r64 r1 then if r64 r2 then (if (zcmp r1 r2) = 0 then f_M_isTrack_22 K 1 F2 B2 else f_M_isTrack_22 K 0 F2 B2) else none else none))
set_option maxHeartbeats 4000000 in
set_option maxRecDepth 100000 in
theorem c_M_isTrack {l : Launch} {D : va_G} {ca : Nat → ClassId} {ad : Nat → Int → Nat → Nat} {L : List Nat} {aS vS : Nat → Nat} {sz K : Nat}   {F F9 : zF} {B B9 : zB} {r : Int} (hf : f_M_isTrack K  F B = some (r, F9, B9)) : Met l ({ cls := "StaveHouseModel", name := "isTrack", desc := "()Z" } : Jvm.MethodName) (Cond.code ({ cls := "StaveHouseModel", name := "isTrack", desc := "()Z" } : Jvm.MethodName) prog_15_method_142_code 3 (Option.some Jvm.ClassFile.FieldType.boolean) :: wAll) ({ frames := 5, cells := 0, slots := 0, locals := 108 } : Room) (va_Pc [.ref (ad 14 0 0)] (zPre D ca ad lnM nM L aS vS F B sz)) (Q_M_isTrack D ca ad L r F9 B9 (zA L sz)) 0 0 (zA L sz) := by
  refine zMet (Qc := Q_M_isTrack D ca ad L r F9 B9) (lv := [(0, .ref (ad 14 0 0))]) (by decide) (Nat.le_of_ble_eq_true rfl) rfl (fun A p e s m below meth c ls X hZ hS hl => ?_)
  obtain ⟨hx, hb, hr, hml, hown, hts, hlk, hK, hA, hL, hX⟩ := id X
  replace hf : (zbind (f_M_whole K 4 F B) (fun r1 F1 B1 => zbind (f_M_code K 37 F1 B1) (fun r2 F2 B2 => if r64 r1 then if r64 r2 then (if (zcmp r1 r2) = 0 then f_M_isTrack_22 K 1 F2 B2 else f_M_isTrack_22 K 0 F2 B2) else none else none))) = some (r, F9, B9) := hf
  refine lv_aload_n hx hb (D_42 W_prog_15_method_142_code_0 0 rfl rfl) rfl (lv_at hl 0 rfl) ?_
  refine lv_iconst (v := iI 4) hx hb (D_7 W_prog_15_method_142_code_0 1 rfl rfl) rfl ?_
  obtain ⟨r1, F1, B1, hc1, hf⟩ := gbind hf
  refine va_calll (va_runV (As := [.int (iI 4)]) (rest := []) ⟨hx, hb, hml, hown, hts⟩ (c_M_whole (l := l) hc1) (cwV 1 hts (gdV k_13_27 k_13_29 ks_155 k_1_9 k_13_30) rfl rfl rfl (by decide +kernel) ⟨Nat.le_of_ble_eq_true rfl, Nat.le_of_ble_eq_true rfl⟩) (zPV X hZ hS (ci := 14) (by decide) (by decide) (r := (RX14, TX14, 107)) rfl [.int (iI 4)]) rfl rfl hl.1 rfl (lv_room (Nat.le_of_ble_eq_true rfl)) (D_182 W_prog_15_method_142_code_0 2 rfl rfl rfl) ⟨Nat.le_of_ble_eq_true rfl, Nat.le_of_ble_eq_true rfl⟩) hS (fun q _ h => zAin X hS q h) (zAin X hS) (fun p1 u1 t1 H1 locs1 ht1 hv1 hw1 hB1 hz1 hk1 hS1 => ?_)
  have hZ1 := zBack X ht1 hB1
  subst hw1
  refine lv_lstore_n (lv' := [(1, .long (lI r1)), (0, .ref (ad 14 0 0))]) hx hb (D_64 W_prog_15_method_142_code_0 5 rfl rfl) rfl hl (by decide) rfl (fun ls hl => ?_)
  refine lv_lload_n hx hb (D_31 W_prog_15_method_142_code_0 6 rfl rfl) rfl (lv_at hl 0 rfl) ?_
  refine gldcwS hx hb hown (hX.2.2.2.2.1 37 _ rfl).1 (D_19 W_prog_15_method_142_code_0 7 rfl rfl rfl) ?_
  obtain ⟨r2, F2, B2, hc2, hf⟩ := gbind hf
  refine va_calll (va_runS (As := [.ref (aS 37)]) (rest := [.long (lI r1)]) ⟨hx, hb, hml, hown, hts⟩ (c_M_code (l := l) hc2) (va_cwS 1 hts (gdS k_10_191 k_10_192 k_1_9 k_10_193) rfl rfl rfl (by decide +kernel) ⟨Nat.le_of_ble_eq_true rfl, Nat.le_of_ble_eq_true rfl⟩) (zPS X hZ1 hS1 [.ref (aS 37)]) rfl rfl hl.1 rfl (lv_room (Nat.le_of_ble_eq_true rfl)) (D_184 W_prog_15_method_142_code_0 10 rfl rfl rfl) ⟨Nat.le_of_ble_eq_true rfl, Nat.le_of_ble_eq_true rfl⟩) hS1 (fun q _ h => zAin X hS1 q h) (zAin X hS1) (fun p2 u2 t2 H2 locs2 ht2 hv2 hw2 hB2 hz2 hk2 hS2 => ?_)
  have hZ2 := zBack X ht2 hB2
  subst hw2
  obtain ⟨g3, hf⟩ := gif hf
  obtain ⟨g4, hf⟩ := gif hf
  refine zcmp_r hx hb g3 g4 (D_148 W_prog_15_method_142_code_0 13 rfl rfl) ?_
  refine z0ne (tgt := 21) hx hb zcmp_32 (D_154 W_prog_15_method_142_code_0 14 rfl rfl rfl) (by decide) (fun h5 => ?_) (fun h5 => ?_)
  · replace hf := gneg hf h5
    refine lv_iconst (v := iI 0) hx hb (D_3 W_prog_15_method_142_code_0 21 rfl rfl) rfl ?_
    exact b_M_isTrack_22 X hf hZ2 hS2 (lv_sub hl [] rfl)
  · replace hf := gpos hf h5
    refine lv_iconst (v := iI 1) hx hb (D_4 W_prog_15_method_142_code_0 17 rfl rfl) rfl ?_
    refine lv_goto (tgt := 22) hx hb (D_167 W_prog_15_method_142_code_0 18 rfl rfl rfl) (by decide) ?_
    exact b_M_isTrack_22 X hf hZ2 hS2 (lv_sub hl [] rfl)

abbrev Q_M_seven (D : va_G) (ca : Nat → ClassId) (ad : Nat → Int → Nat → Nat) (L : List Nat) (r : Int) (F : zF) (B : zB) (A : Nat → Prop) : Array Value → State → Outcome → State → Prop := va_Qi (S := Unit) (fun p _ => p = iI r) (fun _ => zPo D ca ad lnM nM L F B A) A
def f_M_seven_73 (K : Nat) (l1 : Int) (F : zF) (B : zB) : zO := some (l1, F, B)
set_option maxHeartbeats 4000000 in
set_option maxRecDepth 100000 in
theorem b_M_seven_73 {D : va_G} {ca : Nat → ClassId} {ad : Nat → Int → Nat → Nat} {L : List Nat} {aS vS : Nat → Nat} {A : Nat → Prop} {p : Program} {l : Launch} {e : Env} {s : State} {m : MethodId} {args : Array Value} {below : List Frame} {meth : Method} {c : Code} {K : Nat} {r : Int} {F9 : zF} {B9 : zB} (X : zX D ca L aS vS A p s m args meth c prog_15_method_144_code 4 (Option.some Jvm.ClassFile.FieldType.int) "StaveHouseModel") {l1 : Int} {F : zF} {B : zB} {H : Heap} {locs : List Loc} {ls : Array Slot} (hf : f_M_seven_73 K l1 F B = some (r, F9, B9)) (hZ : zH D ca ad lnM nM L F B A H) (hS : va_S A s.heap H locs) (hl : lv_has ls 4 [(1, .int (iI l1))]) : W p l e ({ frames := 2, cells := 0, slots := 0, locals := 42 } : Room) s m args below meth c H locs 0 0 (MQ below (Q_M_seven D ca ad L r F9 B9 A) args s 0 0 A) (F0 m 73 ls []) := by
  obtain ⟨hx, hb, hr, hml, hown, hts, hlk, hK, hA, hL, hX⟩ := id X
  replace hf : (some (l1, F, B)) = some (r, F9, B9) := hf
  refine lv_iload_n hx hb (D_27 W_prog_15_method_144_code_64 9 rfl rfl) rfl (lv_at hl 0 rfl) ?_
  cases hf
  exact W.iret hx hb hr (fun t ht hW => ⟨⟨_, (), rfl, rfl, by rw [ht]; exact hZ, va_K.moved hW.alike hK⟩, hS.F ht⟩) hS.2.2 (D_172 W_prog_15_method_144_code_64 10 rfl rfl) hlk

def f_M_seven_48 (K : Nat) (l2 : Int) (l1 : Int) (F : zF) (B : zB) : zO := zbind (f_M_good K F B) (fun r9 F9 B9 => if r32 r9 then (if r9 = 0 then f_M_seven_73 K l1 F9 B9 else if r32 l2 then (if l2 < 128 then f_M_seven_73 K l1 F9 B9 else zbind (f_M_failByte K 1 ((F9 14 0 89) - 1) F9 B9) (fun r14 F14 B14 => f_M_seven_73 K l1 F14 B14)) else none) else none)
set_option maxHeartbeats 4000000 in
set_option maxRecDepth 100000 in
theorem b_M_seven_48 {D : va_G} {ca : Nat → ClassId} {ad : Nat → Int → Nat → Nat} {L : List Nat} {aS vS : Nat → Nat} {A : Nat → Prop} {p : Program} {l : Launch} {e : Env} {s : State} {m : MethodId} {args : Array Value} {below : List Frame} {meth : Method} {c : Code} {K : Nat} {r : Int} {F9 : zF} {B9 : zB} (X : zX D ca L aS vS A p s m args meth c prog_15_method_144_code 4 (Option.some Jvm.ClassFile.FieldType.int) "StaveHouseModel") {l2 : Int} {l1 : Int} {F : zF} {B : zB} {H : Heap} {locs : List Loc} {ls : Array Slot} (hf : f_M_seven_48 K l2 l1 F B = some (r, F9, B9)) (hZ : zH D ca ad lnM nM L F B A H) (hS : va_S A s.heap H locs) (hl : lv_has ls 4 [(2, .int (iI l2)), (1, .int (iI l1)), (0, .ref (ad 14 0 0))]) : W p l e ({ frames := 2, cells := 0, slots := 0, locals := 42 } : Room) s m args below meth c H locs 0 0 (MQ below (Q_M_seven D ca ad L r F9 B9 A) args s 0 0 A) (F0 m 48 ls []) := by
  obtain ⟨hx, hb, hr, hml, hown, hts, hlk, hK, hA, hL, hX⟩ := id X
  replace hf : (zbind (f_M_good K F B) (fun r9 F9 B9 => if r32 r9 then (if r9 = 0 then f_M_seven_73 K l1 F9 B9 else if r32 l2 then (if l2 < 128 then f_M_seven_73 K l1 F9 B9 else zbind (f_M_failByte K 1 ((F9 14 0 89) - 1) F9 B9) (fun r14 F14 B14 => f_M_seven_73 K l1 F14 B14)) else none) else none)) = some (r, F9, B9) := hf
  refine lv_aload_n hx hb (D_42 W_prog_15_method_144_code_32 16 rfl rfl) rfl (lv_at hl 2 rfl) ?_
  obtain ⟨r9, F9, B9, hc9, hf⟩ := gbind hf
  refine va_calli (va_runV (As := []) (rest := []) ⟨hx, hb, hml, hown, hts⟩ (c_M_good (l := l) hc9) (cwV 0 hts (gdV k_13_15 k_13_17 ks_152 k_1_9 k_13_18) rfl rfl rfl (by decide +kernel) ⟨Nat.le_of_ble_eq_true rfl, Nat.le_of_ble_eq_true rfl⟩) (zPV X hZ hS (ci := 14) (by decide) (by decide) (r := (RX14, TX14, 107)) rfl []) rfl rfl hl.1 rfl (lv_room (Nat.le_of_ble_eq_true rfl)) (D_182 W_prog_15_method_144_code_32 17 rfl rfl rfl) ⟨Nat.le_of_ble_eq_true rfl, Nat.le_of_ble_eq_true rfl⟩) hS (fun q _ h => zAin X hS q h) (zAin X hS) (fun p9 u9 t9 H9 locs9 ht9 hv9 hw9 hB9 hz9 hk9 hS9 => ?_)
  have hZ9 := zBack X ht9 hB9
  subst hw9
  obtain ⟨g10, hf⟩ := gif hf
  refine z0eq (tgt := 73) hx hb g10 (D_153 W_prog_15_method_144_code_32 20 rfl rfl rfl) (by decide) (fun h11 => ?_) (fun h11 => ?_)
  · replace hf := gpos hf h11
    exact b_M_seven_73 X hf hZ9 hS9 (lv_sub hl [1] rfl)
  · replace hf := gneg hf h11
    refine lv_iload_n hx hb (D_28 W_prog_15_method_144_code_32 23 rfl rfl) rfl (lv_at hl 0 rfl) ?_
    refine lv_sipush (v := iI 128) hx hb (D_17 W_prog_15_method_144_code_32 24 rfl rfl rfl) (by decide) ?_
    obtain ⟨g12, hf⟩ := gif hf
    refine zlt (tgt := 73) hx hb g12 (by decide) (D_161 W_prog_15_method_144_code_32 27 rfl rfl rfl) (by decide) (fun h13 => ?_) (fun h13 => ?_)
    · replace hf := gpos hf h13
      exact b_M_seven_73 X hf hZ9 hS9 (lv_sub hl [1] rfl)
    · replace hf := gneg hf h13
      refine lv_aload_n hx hb (D_42 W_prog_15_method_144_code_32 30 rfl rfl) rfl (lv_at hl 2 rfl) ?_
      refine lv_iconst (v := iI 1) hx hb (D_4 W_prog_15_method_144_code_32 31 rfl rfl) rfl ?_
      refine lv_aload_n hx hb (D_42 W_prog_15_method_144_code_64 0 rfl rfl) rfl (lv_at hl 2 rfl) ?_
      refine zget (ci := 14) (C := RX14) (T := TX14) (v := .int (iI (F9 14 0 89))) (k := 89) hx hb hts inW_14 hown hK hZ9 (by decide) (by decide) rfl (by decide) k_11_87 rfl (D_180 W_prog_15_method_144_code_64 1 rfl rfl rfl) ?_
      refine lv_iconst (v := iI 1) hx hb (D_4 W_prog_15_method_144_code_64 4 rfl rfl) rfl ?_
      refine zsub hx hb (D_100 W_prog_15_method_144_code_64 5 rfl rfl) ?_
      obtain ⟨r14, F14, B14, hc14, hf⟩ := gbind hf
      refine va_callv (va_runV (As := [.int (iI 1), .int (iI ((F9 14 0 89) - 1))]) (rest := []) ⟨hx, hb, hml, hown, hts⟩ (c_M_failByte (l := l) hc14) (cwV 2 hts (gdV k_13_19 k_13_21 ks_153 k_1_9 k_13_22) rfl rfl rfl (by decide +kernel) ⟨Nat.le_of_ble_eq_true rfl, Nat.le_of_ble_eq_true rfl⟩) (zPV X hZ9 hS9 (ci := 14) (by decide) (by decide) (r := (RX14, TX14, 107)) rfl [.int (iI 1), .int (iI ((F9 14 0 89) - 1))]) rfl rfl hl.1 rfl (lv_room (Nat.le_of_ble_eq_true rfl)) (D_182 W_prog_15_method_144_code_64 6 rfl rfl rfl) ⟨Nat.le_of_ble_eq_true rfl, Nat.le_of_ble_eq_true rfl⟩) hS9 (fun q _ h => zAin X hS9 q h) (zAin X hS9) (fun u14 t14 H14 locs14 ht14 hv14 hw14 hB14 hz14 hk14 hS14 => ?_)
      have hZ14 := zBack X ht14 hB14
      exact b_M_seven_73 X hf hZ14 hS14 (lv_sub hl [1] rfl)

def f_M_seven_8 (K : Nat) : Nat → Int → Int → Int → zF → zB → zO
  | 0, _, _, _, _, _ => none
  | n + 1, l3, l2, l1, F, B => if r32 l3 then (if 4 ≤ l3 then f_M_seven_48 K l2 l1 F B else zbind (f_M_good K F B) (fun r3 F3 B3 => if r32 r3 then (if r3 = 0 then f_M_seven_48 K l2 l1 F3 B3 else if r32 l2 then (if l2 < 128 then f_M_seven_48 K l2 l1 F3 B3 else zbind (f_M_next K F3 B3) (fun r8 F8 B8 => f_M_seven_8 K n (l3 + 1) r8 (zor (zshl l1 7) (zand r8 127)) F8 B8)) else none) else none)) else none
set_option maxHeartbeats 4000000 in
set_option maxRecDepth 100000 in
theorem b_M_seven_8 {D : va_G} {ca : Nat → ClassId} {ad : Nat → Int → Nat → Nat} {L : List Nat} {aS vS : Nat → Nat} {A : Nat → Prop} {p : Program} {l : Launch} {e : Env} {s : State} {m : MethodId} {args : Array Value} {below : List Frame} {meth : Method} {c : Code} {K : Nat} {r : Int} {F9 : zF} {B9 : zB} (X : zX D ca L aS vS A p s m args meth c prog_15_method_144_code 4 (Option.some Jvm.ClassFile.FieldType.int) "StaveHouseModel") : ∀ {n : Nat} {l3 : Int} {l2 : Int} {l1 : Int} {F : zF} {B : zB} {H : Heap} {locs : List Loc} {ls : Array Slot}, f_M_seven_8 K n l3 l2 l1 F B = some (r, F9, B9) → zH D ca ad lnM nM L F B A H → va_S A s.heap H locs → lv_has ls 4 [(3, .int (iI l3)), (2, .int (iI l2)), (1, .int (iI l1)), (0, .ref (ad 14 0 0))] → W p l e ({ frames := 2, cells := 0, slots := 0, locals := 42 } : Room) s m args below meth c H locs 0 0 (MQ below (Q_M_seven D ca ad L r F9 B9 A) args s 0 0 A) (F0 m 8 ls []) := by
  obtain ⟨hx, hb, hr, hml, hown, hts, hlk, hK, hA, hL, hX⟩ := id X
  intro n
  induction n with
  | zero =>
    intros
    rename_i hf _ _ _
    cases hf
  | succ n ih =>
    intro l3 l2 l1 F B H locs ls hf hZ hS hl
    replace hf : (if r32 l3 then (if 4 ≤ l3 then f_M_seven_48 K l2 l1 F B else zbind (f_M_good K F B) (fun r3 F3 B3 => if r32 r3 then (if r3 = 0 then f_M_seven_48 K l2 l1 F3 B3 else if r32 l2 then (if l2 < 128 then f_M_seven_48 K l2 l1 F3 B3 else zbind (f_M_next K F3 B3) (fun r8 F8 B8 => f_M_seven_8 K n (l3 + 1) r8 (zor (zshl l1 7) (zand r8 127)) F8 B8)) else none) else none)) else none) = some (r, F9, B9) := hf
    refine lv_iload_n hx hb (D_29 W_prog_15_method_144_code_0 8 rfl rfl) rfl (lv_at hl 0 rfl) ?_
    refine lv_iconst (v := iI 4) hx hb (D_7 W_prog_15_method_144_code_0 9 rfl rfl) rfl ?_
    obtain ⟨g1, hf⟩ := gif hf
    refine zge (tgt := 48) hx hb g1 (by decide) (D_162 W_prog_15_method_144_code_0 10 rfl rfl rfl) (by decide) (fun h2 => ?_) (fun h2 => ?_)
    · replace hf := gpos hf h2
      exact b_M_seven_48 X hf hZ hS (lv_sub hl [1, 2, 3] rfl)
    · replace hf := gneg hf h2
      refine lv_aload_n hx hb (D_42 W_prog_15_method_144_code_0 13 rfl rfl) rfl (lv_at hl 3 rfl) ?_
      obtain ⟨r3, F3, B3, hc3, hf⟩ := gbind hf
      refine va_calli (va_runV (As := []) (rest := []) ⟨hx, hb, hml, hown, hts⟩ (c_M_good (l := l) hc3) (cwV 0 hts (gdV k_13_15 k_13_17 ks_152 k_1_9 k_13_18) rfl rfl rfl (by decide +kernel) ⟨Nat.le_of_ble_eq_true rfl, Nat.le_of_ble_eq_true rfl⟩) (zPV X hZ hS (ci := 14) (by decide) (by decide) (r := (RX14, TX14, 107)) rfl []) rfl rfl hl.1 rfl (lv_room (Nat.le_of_ble_eq_true rfl)) (D_182 W_prog_15_method_144_code_0 14 rfl rfl rfl) ⟨Nat.le_of_ble_eq_true rfl, Nat.le_of_ble_eq_true rfl⟩) hS (fun q _ h => zAin X hS q h) (zAin X hS) (fun p3 u3 t3 H3 locs3 ht3 hv3 hw3 hB3 hz3 hk3 hS3 => ?_)
      have hZ3 := zBack X ht3 hB3
      subst hw3
      obtain ⟨g4, hf⟩ := gif hf
      refine z0eq (tgt := 48) hx hb g4 (D_153 W_prog_15_method_144_code_0 17 rfl rfl rfl) (by decide) (fun h5 => ?_) (fun h5 => ?_)
      · replace hf := gpos hf h5
        exact b_M_seven_48 X hf hZ3 hS3 (lv_sub hl [1, 2, 3] rfl)
      · replace hf := gneg hf h5
        refine lv_iload_n hx hb (D_28 W_prog_15_method_144_code_0 20 rfl rfl) rfl (lv_at hl 1 rfl) ?_
        refine lv_sipush (v := iI 128) hx hb (D_17 W_prog_15_method_144_code_0 21 rfl rfl rfl) (by decide) ?_
        obtain ⟨g6, hf⟩ := gif hf
        refine zlt (tgt := 48) hx hb g6 (by decide) (D_161 W_prog_15_method_144_code_0 24 rfl rfl rfl) (by decide) (fun h7 => ?_) (fun h7 => ?_)
        · replace hf := gpos hf h7
          exact b_M_seven_48 X hf hZ3 hS3 (lv_sub hl [1, 2, 3] rfl)
        · replace hf := gneg hf h7
          refine lv_aload_n hx hb (D_42 W_prog_15_method_144_code_0 27 rfl rfl) rfl (lv_at hl 3 rfl) ?_
          obtain ⟨r8, F8, B8, hc8, hf⟩ := gbind hf
          refine va_calli (va_runV (As := []) (rest := []) ⟨hx, hb, hml, hown, hts⟩ (c_M_next (l := l) hc8) (cwV 0 hts (gdV k_13_11 k_13_13 ks_151 k_1_9 k_13_14) rfl rfl rfl (by decide +kernel) ⟨Nat.le_of_ble_eq_true rfl, Nat.le_of_ble_eq_true rfl⟩) (zPV X hZ3 hS3 (ci := 14) (by decide) (by decide) (r := (RX14, TX14, 107)) rfl []) rfl rfl hl.1 rfl (lv_room (Nat.le_of_ble_eq_true rfl)) (D_182 W_prog_15_method_144_code_0 28 rfl rfl rfl) ⟨Nat.le_of_ble_eq_true rfl, Nat.le_of_ble_eq_true rfl⟩) hS3 (fun q _ h => zAin X hS3 q h) (zAin X hS3) (fun p8 u8 t8 H8 locs8 ht8 hv8 hw8 hB8 hz8 hk8 hS8 => ?_)
          have hZ8 := zBack X ht8 hB8
          subst hw8
          refine lv_istore_n (lv' := [(2, .int (iI r8)), (3, .int (iI l3)), (1, .int (iI l1)), (0, .ref (ad 14 0 0))]) hx hb (D_61 W_prog_15_method_144_code_0 31 rfl rfl) rfl hl (by decide) rfl (fun ls hl => ?_)
          refine lv_iload_n hx hb (D_27 W_prog_15_method_144_code_32 0 rfl rfl) rfl (lv_at hl 2 rfl) ?_
          refine lv_bipush (v := iI 7) hx hb (D_16 W_prog_15_method_144_code_32 1 rfl rfl rfl) (by decide) ?_
          refine zshl_r hx hb (D_120 W_prog_15_method_144_code_32 3 rfl rfl) ?_
          refine lv_iload_n hx hb (D_28 W_prog_15_method_144_code_32 4 rfl rfl) rfl (lv_at hl 0 rfl) ?_
          refine lv_bipush (v := iI 127) hx hb (D_16 W_prog_15_method_144_code_32 5 rfl rfl rfl) (by decide) ?_
          refine zand_r hx hb (D_126 W_prog_15_method_144_code_32 7 rfl rfl) ?_
          refine zor_r hx hb (D_128 W_prog_15_method_144_code_32 8 rfl rfl) ?_
          refine lv_istore_n (lv' := [(1, .int (iI (zor (zshl l1 7) (zand r8 127)))), (2, .int (iI r8)), (3, .int (iI l3)), (0, .ref (ad 14 0 0))]) hx hb (D_60 W_prog_15_method_144_code_32 9 rfl rfl) rfl hl (by decide) rfl (fun ls hl => ?_)
          refine lv_iinc (v := iI (l3 + 1)) (lv' := [(3, .int (iI (l3 + 1))), (1, .int (iI (zor (zshl l1 7) (zand r8 127)))), (2, .int (iI r8)), (0, .ref (ad 14 0 0))]) hx hb d_15_144_42 hl (k := 2) rfl (iI_add _ 1) (by decide) rfl (fun ls hl => ?_)
          refine lv_goto (tgt := 8) hx hb (D_167 W_prog_15_method_144_code_32 13 rfl rfl rfl) (by decide) ?_
          exact ih hf hZ8 hS8 (lv_sub hl [0, 2, 1, 3] rfl)

def f_M_seven (K : Nat)  (F : zF) (B : zB) : zO := f_M_seven_8 K K 0 128 0 F B
set_option maxHeartbeats 4000000 in
set_option maxRecDepth 100000 in
theorem c_M_seven {l : Launch} {D : va_G} {ca : Nat → ClassId} {ad : Nat → Int → Nat → Nat} {L : List Nat} {aS vS : Nat → Nat} {sz K : Nat}   {F F9 : zF} {B B9 : zB} {r : Int} (hf : f_M_seven K  F B = some (r, F9, B9)) : Met l ({ cls := "StaveHouseModel", name := "seven", desc := "()I" } : Jvm.MethodName) (Cond.code ({ cls := "StaveHouseModel", name := "seven", desc := "()I" } : Jvm.MethodName) prog_15_method_144_code 4 (Option.some Jvm.ClassFile.FieldType.int) :: wAll) ({ frames := 2, cells := 0, slots := 0, locals := 42 } : Room) (va_Pc [.ref (ad 14 0 0)] (zPre D ca ad lnM nM L aS vS F B sz)) (Q_M_seven D ca ad L r F9 B9 (zA L sz)) 0 0 (zA L sz) := by
  refine zMet (Qc := Q_M_seven D ca ad L r F9 B9) (lv := [(0, .ref (ad 14 0 0))]) (by decide) (Nat.le_of_ble_eq_true rfl) rfl (fun A p e s m below meth c ls X hZ hS hl => ?_)
  obtain ⟨hx, hb, hr, hml, hown, hts, hlk, hK, hA, hL, hX⟩ := id X
  replace hf : (f_M_seven_8 K K 0 128 0 F B) = some (r, F9, B9) := hf
  refine lv_iconst (v := iI 0) hx hb (D_3 W_prog_15_method_144_code_0 0 rfl rfl) rfl ?_
  refine lv_istore_n (lv' := [(1, .int (iI 0)), (0, .ref (ad 14 0 0))]) hx hb (D_60 W_prog_15_method_144_code_0 1 rfl rfl) rfl hl (by decide) rfl (fun ls hl => ?_)
  refine lv_sipush (v := iI 128) hx hb (D_17 W_prog_15_method_144_code_0 2 rfl rfl rfl) (by decide) ?_
  refine lv_istore_n (lv' := [(2, .int (iI 128)), (1, .int (iI 0)), (0, .ref (ad 14 0 0))]) hx hb (D_61 W_prog_15_method_144_code_0 5 rfl rfl) rfl hl (by decide) rfl (fun ls hl => ?_)
  refine lv_iconst (v := iI 0) hx hb (D_3 W_prog_15_method_144_code_0 6 rfl rfl) rfl ?_
  refine lv_istore_n (lv' := [(3, .int (iI 0)), (2, .int (iI 128)), (1, .int (iI 0)), (0, .ref (ad 14 0 0))]) hx hb (D_62 W_prog_15_method_144_code_0 7 rfl rfl) rfl hl (by decide) rfl (fun ls hl => ?_)
  exact b_M_seven_8 X hf hZ hS (lv_sub hl [0, 1, 2, 3] rfl)

abbrev Q_M_below (D : va_G) (ca : Nat → ClassId) (ad : Nat → Int → Nat → Nat) (L : List Nat) (r : Int) (F : zF) (B : zB) (A : Nat → Prop) : Array Value → State → Outcome → State → Prop := va_Qi (S := Unit) (fun p _ => p = iI r) (fun _ => zPo D ca ad lnM nM L F B A) A
def f_M_below_30 (K : Nat) (l1 : Int) (F : zF) (B : zB) : zO := some (l1, F, B)
set_option maxHeartbeats 4000000 in
set_option maxRecDepth 100000 in
theorem b_M_below_30 {D : va_G} {ca : Nat → ClassId} {ad : Nat → Int → Nat → Nat} {L : List Nat} {aS vS : Nat → Nat} {A : Nat → Prop} {p : Program} {l : Launch} {e : Env} {s : State} {m : MethodId} {args : Array Value} {below : List Frame} {meth : Method} {c : Code} {K : Nat} {r : Int} {F9 : zF} {B9 : zB} (X : zX D ca L aS vS A p s m args meth c prog_15_method_146_code 2 (Option.some Jvm.ClassFile.FieldType.int) "StaveHouseModel") {l1 : Int} {F : zF} {B : zB} {H : Heap} {locs : List Loc} {ls : Array Slot} (hf : f_M_below_30 K l1 F B = some (r, F9, B9)) (hZ : zH D ca ad lnM nM L F B A H) (hS : va_S A s.heap H locs) (hl : lv_has ls 2 [(1, .int (iI l1))]) : W p l e ({ frames := 2, cells := 0, slots := 0, locals := 42 } : Room) s m args below meth c H locs 0 0 (MQ below (Q_M_below D ca ad L r F9 B9 A) args s 0 0 A) (F0 m 30 ls []) := by
  obtain ⟨hx, hb, hr, hml, hown, hts, hlk, hK, hA, hL, hX⟩ := id X
  replace hf : (some (l1, F, B)) = some (r, F9, B9) := hf
  refine lv_iload_n hx hb (D_27 W_prog_15_method_146_code_0 30 rfl rfl) rfl (lv_at hl 0 rfl) ?_
  cases hf
  exact W.iret hx hb hr (fun t ht hW => ⟨⟨_, (), rfl, rfl, by rw [ht]; exact hZ, va_K.moved hW.alike hK⟩, hS.F ht⟩) hS.2.2 (D_172 W_prog_15_method_146_code_0 31 rfl rfl) hlk

def f_M_below (K : Nat)  (F : zF) (B : zB) : zO := zbind (f_M_next K F B) (fun r1 F1 B1 => zbind (f_M_good K F1 B1) (fun r2 F2 B2 => if r32 r2 then (if r2 = 0 then f_M_below_30 K r1 F2 B2 else if r32 r1 then (if r1 < 128 then f_M_below_30 K r1 F2 B2 else zbind (f_M_failByte K 1 ((F2 14 0 89) - 1) F2 B2) (fun r7 F7 B7 => f_M_below_30 K r1 F7 B7)) else none) else none))
set_option maxHeartbeats 4000000 in
set_option maxRecDepth 100000 in
theorem c_M_below {l : Launch} {D : va_G} {ca : Nat → ClassId} {ad : Nat → Int → Nat → Nat} {L : List Nat} {aS vS : Nat → Nat} {sz K : Nat}   {F F9 : zF} {B B9 : zB} {r : Int} (hf : f_M_below K  F B = some (r, F9, B9)) : Met l ({ cls := "StaveHouseModel", name := "below", desc := "()I" } : Jvm.MethodName) (Cond.code ({ cls := "StaveHouseModel", name := "below", desc := "()I" } : Jvm.MethodName) prog_15_method_146_code 2 (Option.some Jvm.ClassFile.FieldType.int) :: wAll) ({ frames := 2, cells := 0, slots := 0, locals := 42 } : Room) (va_Pc [.ref (ad 14 0 0)] (zPre D ca ad lnM nM L aS vS F B sz)) (Q_M_below D ca ad L r F9 B9 (zA L sz)) 0 0 (zA L sz) := by
  refine zMet (Qc := Q_M_below D ca ad L r F9 B9) (lv := [(0, .ref (ad 14 0 0))]) (by decide) (Nat.le_of_ble_eq_true rfl) rfl (fun A p e s m below meth c ls X hZ hS hl => ?_)
  obtain ⟨hx, hb, hr, hml, hown, hts, hlk, hK, hA, hL, hX⟩ := id X
  replace hf : (zbind (f_M_next K F B) (fun r1 F1 B1 => zbind (f_M_good K F1 B1) (fun r2 F2 B2 => if r32 r2 then (if r2 = 0 then f_M_below_30 K r1 F2 B2 else if r32 r1 then (if r1 < 128 then f_M_below_30 K r1 F2 B2 else zbind (f_M_failByte K 1 ((F2 14 0 89) - 1) F2 B2) (fun r7 F7 B7 => f_M_below_30 K r1 F7 B7)) else none) else none))) = some (r, F9, B9) := hf
  refine lv_aload_n hx hb (D_42 W_prog_15_method_146_code_0 0 rfl rfl) rfl (lv_at hl 0 rfl) ?_
  obtain ⟨r1, F1, B1, hc1, hf⟩ := gbind hf
  refine va_calli (va_runV (As := []) (rest := []) ⟨hx, hb, hml, hown, hts⟩ (c_M_next (l := l) hc1) (cwV 0 hts (gdV k_13_11 k_13_13 ks_151 k_1_9 k_13_14) rfl rfl rfl (by decide +kernel) ⟨Nat.le_of_ble_eq_true rfl, Nat.le_of_ble_eq_true rfl⟩) (zPV X hZ hS (ci := 14) (by decide) (by decide) (r := (RX14, TX14, 107)) rfl []) rfl rfl hl.1 rfl (lv_room (Nat.le_of_ble_eq_true rfl)) (D_182 W_prog_15_method_146_code_0 1 rfl rfl rfl) ⟨Nat.le_of_ble_eq_true rfl, Nat.le_of_ble_eq_true rfl⟩) hS (fun q _ h => zAin X hS q h) (zAin X hS) (fun p1 u1 t1 H1 locs1 ht1 hv1 hw1 hB1 hz1 hk1 hS1 => ?_)
  have hZ1 := zBack X ht1 hB1
  subst hw1
  refine lv_istore_n (lv' := [(1, .int (iI r1)), (0, .ref (ad 14 0 0))]) hx hb (D_60 W_prog_15_method_146_code_0 4 rfl rfl) rfl hl (by decide) rfl (fun ls hl => ?_)
  refine lv_aload_n hx hb (D_42 W_prog_15_method_146_code_0 5 rfl rfl) rfl (lv_at hl 1 rfl) ?_
  obtain ⟨r2, F2, B2, hc2, hf⟩ := gbind hf
  refine va_calli (va_runV (As := []) (rest := []) ⟨hx, hb, hml, hown, hts⟩ (c_M_good (l := l) hc2) (cwV 0 hts (gdV k_13_15 k_13_17 ks_152 k_1_9 k_13_18) rfl rfl rfl (by decide +kernel) ⟨Nat.le_of_ble_eq_true rfl, Nat.le_of_ble_eq_true rfl⟩) (zPV X hZ1 hS1 (ci := 14) (by decide) (by decide) (r := (RX14, TX14, 107)) rfl []) rfl rfl hl.1 rfl (lv_room (Nat.le_of_ble_eq_true rfl)) (D_182 W_prog_15_method_146_code_0 6 rfl rfl rfl) ⟨Nat.le_of_ble_eq_true rfl, Nat.le_of_ble_eq_true rfl⟩) hS1 (fun q _ h => zAin X hS1 q h) (zAin X hS1) (fun p2 u2 t2 H2 locs2 ht2 hv2 hw2 hB2 hz2 hk2 hS2 => ?_)
  have hZ2 := zBack X ht2 hB2
  subst hw2
  obtain ⟨g3, hf⟩ := gif hf
  refine z0eq (tgt := 30) hx hb g3 (D_153 W_prog_15_method_146_code_0 9 rfl rfl rfl) (by decide) (fun h4 => ?_) (fun h4 => ?_)
  · replace hf := gpos hf h4
    exact b_M_below_30 X hf hZ2 hS2 (lv_sub hl [0] rfl)
  · replace hf := gneg hf h4
    refine lv_iload_n hx hb (D_27 W_prog_15_method_146_code_0 12 rfl rfl) rfl (lv_at hl 0 rfl) ?_
    refine lv_sipush (v := iI 128) hx hb (D_17 W_prog_15_method_146_code_0 13 rfl rfl rfl) (by decide) ?_
    obtain ⟨g5, hf⟩ := gif hf
    refine zlt (tgt := 30) hx hb g5 (by decide) (D_161 W_prog_15_method_146_code_0 16 rfl rfl rfl) (by decide) (fun h6 => ?_) (fun h6 => ?_)
    · replace hf := gpos hf h6
      exact b_M_below_30 X hf hZ2 hS2 (lv_sub hl [0] rfl)
    · replace hf := gneg hf h6
      refine lv_aload_n hx hb (D_42 W_prog_15_method_146_code_0 19 rfl rfl) rfl (lv_at hl 1 rfl) ?_
      refine lv_iconst (v := iI 1) hx hb (D_4 W_prog_15_method_146_code_0 20 rfl rfl) rfl ?_
      refine lv_aload_n hx hb (D_42 W_prog_15_method_146_code_0 21 rfl rfl) rfl (lv_at hl 1 rfl) ?_
      refine zget (ci := 14) (C := RX14) (T := TX14) (v := .int (iI (F2 14 0 89))) (k := 89) hx hb hts inW_14 hown hK hZ2 (by decide) (by decide) rfl (by decide) k_11_87 rfl (D_180 W_prog_15_method_146_code_0 22 rfl rfl rfl) ?_
      refine lv_iconst (v := iI 1) hx hb (D_4 W_prog_15_method_146_code_0 25 rfl rfl) rfl ?_
      refine zsub hx hb (D_100 W_prog_15_method_146_code_0 26 rfl rfl) ?_
      obtain ⟨r7, F7, B7, hc7, hf⟩ := gbind hf
      refine va_callv (va_runV (As := [.int (iI 1), .int (iI ((F2 14 0 89) - 1))]) (rest := []) ⟨hx, hb, hml, hown, hts⟩ (c_M_failByte (l := l) hc7) (cwV 2 hts (gdV k_13_19 k_13_21 ks_153 k_1_9 k_13_22) rfl rfl rfl (by decide +kernel) ⟨Nat.le_of_ble_eq_true rfl, Nat.le_of_ble_eq_true rfl⟩) (zPV X hZ2 hS2 (ci := 14) (by decide) (by decide) (r := (RX14, TX14, 107)) rfl [.int (iI 1), .int (iI ((F2 14 0 89) - 1))]) rfl rfl hl.1 rfl (lv_room (Nat.le_of_ble_eq_true rfl)) (D_182 W_prog_15_method_146_code_0 27 rfl rfl rfl) ⟨Nat.le_of_ble_eq_true rfl, Nat.le_of_ble_eq_true rfl⟩) hS2 (fun q _ h => zAin X hS2 q h) (zAin X hS2) (fun u7 t7 H7 locs7 ht7 hv7 hw7 hB7 hz7 hk7 hS7 => ?_)
      have hZ7 := zBack X ht7 hB7
      exact b_M_below_30 X hf hZ7 hS7 (lv_sub hl [0] rfl)

abbrev Q_M_spell (D : va_G) (ca : Nat → ClassId) (ad : Nat → Int → Nat → Nat) (L : List Nat) (r : Int) (F : zF) (B : zB) (A : Nat → Prop) : Array Value → State → Outcome → State → Prop := va_Qv (S := Unit) (fun _ => True) (fun _ => zPo D ca ad lnM nM L F B A) A
def f_M_spell_248 (rec53 : Int → Int → Int → Int → Int → zF → zB → zO) (K : Nat) (l6 : Int) (l5 : Int) (l4 : Int) (l1 : Int) (l2 : Int) (F : zF) (B : zB) : zO := rec53 (l6 + 1) l5 l4 l1 l2 F B
set_option maxHeartbeats 4000000 in
set_option maxRecDepth 100000 in
theorem b_M_spell_248 {D : va_G} {ca : Nat → ClassId} {ad : Nat → Int → Nat → Nat} {L : List Nat} {aS vS : Nat → Nat} {A : Nat → Prop} {p : Program} {l : Launch} {e : Env} {s : State} {m : MethodId} {args : Array Value} {below : List Frame} {meth : Method} {c : Code} {K : Nat} {r : Int} {F9 : zF} {B9 : zB} (X : zX D ca L aS vS A p s m args meth c prog_15_method_157_code 10 (Option.none : Option Jvm.ClassFile.FieldType) "StaveHouseModel") {rec53 : Int → Int → Int → Int → Int → zF → zB → zO} (hrec53 : ∀ {l6 : Int} {l5 : Int} {l4 : Int} {l1 : Int} {l2 : Int} {F : zF} {B : zB} {H : Heap} {locs : List Loc} {ls : Array Slot}, rec53 l6 l5 l4 l1 l2 F B = some (r, F9, B9) → zH D ca ad lnM nM L F B A H → va_S A s.heap H locs → lv_has ls 10 [(6, .int (iI l6)), (5, .int (iI l5)), (4, .int (iI l4)), (0, .ref (ad 14 0 0)), (1, .int (iI l1)), (2, .int (iI l2))] → W p l e ({ frames := 2, cells := 0, slots := 0, locals := 43 } : Room) s m args below meth c H locs 0 0 (MQ below (Q_M_spell D ca ad L r F9 B9 A) args s 0 0 A) (F0 m 53 ls [])) {l6 : Int} {l5 : Int} {l4 : Int} {l1 : Int} {l2 : Int} {F : zF} {B : zB} {H : Heap} {locs : List Loc} {ls : Array Slot} (hf : f_M_spell_248 rec53 K l6 l5 l4 l1 l2 F B = some (r, F9, B9)) (hZ : zH D ca ad lnM nM L F B A H) (hS : va_S A s.heap H locs) (hl : lv_has ls 10 [(6, .int (iI l6)), (5, .int (iI l5)), (4, .int (iI l4)), (0, .ref (ad 14 0 0)), (1, .int (iI l1)), (2, .int (iI l2))]) : W p l e ({ frames := 2, cells := 0, slots := 0, locals := 43 } : Room) s m args below meth c H locs 0 0 (MQ below (Q_M_spell D ca ad L r F9 B9 A) args s 0 0 A) (F0 m 248 ls []) := by
  obtain ⟨hx, hb, hr, hml, hown, hts, hlk, hK, hA, hL, hX⟩ := id X
  replace hf : (rec53 (l6 + 1) l5 l4 l1 l2 F B) = some (r, F9, B9) := hf
  refine lv_iinc (v := iI (l6 + 1)) (lv' := [(6, .int (iI (l6 + 1))), (5, .int (iI l5)), (4, .int (iI l4)), (0, .ref (ad 14 0 0)), (1, .int (iI l1)), (2, .int (iI l2))]) hx hb d_15_157_248 hl (k := 0) rfl (iI_add _ 1) (by decide) rfl (fun ls hl => ?_)
  refine lv_goto (tgt := 53) hx hb (D_167 W_prog_15_method_157_code_224 27 rfl rfl rfl) (by decide) ?_
  exact hrec53 hf hZ hS (lv_sub hl [0, 1, 2, 3, 4, 5] rfl)

def f_M_spell_211 (rec53 : Int → Int → Int → Int → Int → zF → zB → zO) (K : Nat) (l8 : Int) (l7 : Int) (l6 : Int) (l5 : Int) (l4 : Int) (l1 : Int) (l2 : Int) (F : zF) (B : zB) : zO := if 0 ≤ (F 14 0 6) ∧ (F 14 0 6) < 3 then if 0 ≤ l8 ∧ l8 < 24000 then if 0 ≤ l1 ∧ l1 < 4000 then f_M_spell_248 rec53 K l6 l5 l4 l1 l2 F (zup4 (zup4 (zup4 B 13 (F 14 0 6) 28 l8 l7) 13 (F 14 0 6) 29 l8 l5) 13 (F 14 0 6) 21 l1 (((zup4 (zup4 B 13 (F 14 0 6) 28 l8 l7) 13 (F 14 0 6) 29 l8 l5) 13 (F 14 0 6) 21 l1) + 1)) else none else none else none
set_option maxHeartbeats 4000000 in
set_option maxRecDepth 100000 in
theorem b_M_spell_211 {D : va_G} {ca : Nat → ClassId} {ad : Nat → Int → Nat → Nat} {L : List Nat} {aS vS : Nat → Nat} {A : Nat → Prop} {p : Program} {l : Launch} {e : Env} {s : State} {m : MethodId} {args : Array Value} {below : List Frame} {meth : Method} {c : Code} {K : Nat} {r : Int} {F9 : zF} {B9 : zB} (X : zX D ca L aS vS A p s m args meth c prog_15_method_157_code 10 (Option.none : Option Jvm.ClassFile.FieldType) "StaveHouseModel") {rec53 : Int → Int → Int → Int → Int → zF → zB → zO} (hrec53 : ∀ {l6 : Int} {l5 : Int} {l4 : Int} {l1 : Int} {l2 : Int} {F : zF} {B : zB} {H : Heap} {locs : List Loc} {ls : Array Slot}, rec53 l6 l5 l4 l1 l2 F B = some (r, F9, B9) → zH D ca ad lnM nM L F B A H → va_S A s.heap H locs → lv_has ls 10 [(6, .int (iI l6)), (5, .int (iI l5)), (4, .int (iI l4)), (0, .ref (ad 14 0 0)), (1, .int (iI l1)), (2, .int (iI l2))] → W p l e ({ frames := 2, cells := 0, slots := 0, locals := 43 } : Room) s m args below meth c H locs 0 0 (MQ below (Q_M_spell D ca ad L r F9 B9 A) args s 0 0 A) (F0 m 53 ls [])) {l8 : Int} {l7 : Int} {l6 : Int} {l5 : Int} {l4 : Int} {l1 : Int} {l2 : Int} {F : zF} {B : zB} {H : Heap} {locs : List Loc} {ls : Array Slot} (hf : f_M_spell_211 rec53 K l8 l7 l6 l5 l4 l1 l2 F B = some (r, F9, B9)) (hZ : zH D ca ad lnM nM L F B A H) (hS : va_S A s.heap H locs) (hl : lv_has ls 10 [(8, .int (iI l8)), (7, .int (iI l7)), (6, .int (iI l6)), (5, .int (iI l5)), (4, .int (iI l4)), (0, .ref (ad 14 0 0)), (1, .int (iI l1)), (2, .int (iI l2))]) : W p l e ({ frames := 2, cells := 0, slots := 0, locals := 43 } : Room) s m args below meth c H locs 0 0 (MQ below (Q_M_spell D ca ad L r F9 B9 A) args s 0 0 A) (F0 m 211 ls []) := by
  obtain ⟨hx, hb, hr, hml, hown, hts, hlk, hK, hA, hL, hX⟩ := id X
  replace hf : (if 0 ≤ (F 14 0 6) ∧ (F 14 0 6) < 3 then if 0 ≤ l8 ∧ l8 < 24000 then if 0 ≤ l1 ∧ l1 < 4000 then f_M_spell_248 rec53 K l6 l5 l4 l1 l2 F (zup4 (zup4 (zup4 B 13 (F 14 0 6) 28 l8 l7) 13 (F 14 0 6) 29 l8 l5) 13 (F 14 0 6) 21 l1 (((zup4 (zup4 B 13 (F 14 0 6) 28 l8 l7) 13 (F 14 0 6) 29 l8 l5) 13 (F 14 0 6) 21 l1) + 1)) else none else none else none) = some (r, F9, B9) := hf
  refine lv_aload_n hx hb (D_42 W_prog_15_method_157_code_192 19 rfl rfl) rfl (lv_at hl 5 rfl) ?_
  refine zget (ci := 14) (C := RX14) (T := TX14) (v := va_rf (zrf ad 13 (F 14 0 6))) (k := 6) hx hb hts inW_14 hown hK hZ (by decide) (by decide) rfl (by decide) k_11_4 rfl (D_180 W_prog_15_method_157_code_192 20 rfl rfl rfl) ?_
  obtain ⟨g35, hf⟩ := gif hf
  refine zunrf g35.1 ?_
  refine zget (ci := 13) (C := RX13) (T := TX13) (v := .ref (ad 13 (F 14 0 6) (28 + 1))) (k := 28) hx hb hts inW_13 hown hK hZ g35.1 g35.2 rfl (by decide) k_9_174 rfl (D_180 W_prog_15_method_157_code_192 23 rfl rfl rfl) ?_
  refine lv_iload hx hb (D_21 W_prog_15_method_157_code_192 26 rfl rfl) (lv_at hl 0 rfl) ?_
  refine lv_iload hx hb (D_21 W_prog_15_method_157_code_192 28 rfl rfl) (lv_at hl 1 rfl) ?_
  obtain ⟨g36, hf⟩ := gif hf
  refine zast (ci := 13) (k := 28) hx hb hK rfl hZ hS g35.1 g35.2 rfl (Nat.le_of_ble_eq_true rfl) g36.1 g36.2 (D_79 W_prog_15_method_157_code_192 30 rfl rfl) (fun H37 locs37 hZ37 hS37 => ?_)
  refine lv_aload_n hx hb (D_42 W_prog_15_method_157_code_192 31 rfl rfl) rfl (lv_at hl 5 rfl) ?_
  refine zget (ci := 14) (C := RX14) (T := TX14) (v := va_rf (zrf ad 13 (F 14 0 6))) (k := 6) hx hb hts inW_14 hown hK hZ37 (by decide) (by decide) rfl (by decide) k_11_4 rfl (D_180 W_prog_15_method_157_code_224 0 rfl rfl rfl) ?_
  refine zunrf g35.1 ?_
  refine zget (ci := 13) (C := RX13) (T := TX13) (v := .ref (ad 13 (F 14 0 6) (29 + 1))) (k := 29) hx hb hts inW_13 hown hK hZ37 g35.1 g35.2 rfl (by decide) k_9_176 rfl (D_180 W_prog_15_method_157_code_224 3 rfl rfl rfl) ?_
  refine lv_iload hx hb (D_21 W_prog_15_method_157_code_224 6 rfl rfl) (lv_at hl 0 rfl) ?_
  refine lv_iload hx hb (D_21 W_prog_15_method_157_code_224 8 rfl rfl) (lv_at hl 3 rfl) ?_
  refine zast (ci := 13) (k := 29) hx hb hK rfl hZ37 hS37 g35.1 g35.2 rfl (Nat.le_of_ble_eq_true rfl) g36.1 g36.2 (D_79 W_prog_15_method_157_code_224 10 rfl rfl) (fun H38 locs38 hZ38 hS38 => ?_)
  refine lv_aload_n hx hb (D_42 W_prog_15_method_157_code_224 11 rfl rfl) rfl (lv_at hl 5 rfl) ?_
  refine zget (ci := 14) (C := RX14) (T := TX14) (v := va_rf (zrf ad 13 (F 14 0 6))) (k := 6) hx hb hts inW_14 hown hK hZ38 (by decide) (by decide) rfl (by decide) k_11_4 rfl (D_180 W_prog_15_method_157_code_224 12 rfl rfl rfl) ?_
  refine zunrf g35.1 ?_
  refine zget (ci := 13) (C := RX13) (T := TX13) (v := .ref (ad 13 (F 14 0 6) (21 + 1))) (k := 21) hx hb hts inW_13 hown hK hZ38 g35.1 g35.2 rfl (by decide) k_9_160 rfl (D_180 W_prog_15_method_157_code_224 15 rfl rfl rfl) ?_
  refine lv_iload_n hx hb (D_27 W_prog_15_method_157_code_224 18 rfl rfl) rfl (lv_at hl 6 rfl) ?_
  refine lv_dup2_11 hx hb (D_92 W_prog_15_method_157_code_224 19 rfl rfl) rfl rfl ?_
  obtain ⟨g39, hf⟩ := gif hf
  refine zald (ci := 13) (k := 21) hx hb hK rfl hZ38 g35.1 g35.2 rfl (Nat.le_of_ble_eq_true rfl) g39.1 g39.2 (D_46 W_prog_15_method_157_code_224 20 rfl rfl) ?_
  refine lv_iconst (v := iI 1) hx hb (D_4 W_prog_15_method_157_code_224 21 rfl rfl) rfl ?_
  refine zadd hx hb (D_96 W_prog_15_method_157_code_224 22 rfl rfl) ?_
  refine zast (ci := 13) (k := 21) hx hb hK rfl hZ38 hS38 g35.1 g35.2 rfl (Nat.le_of_ble_eq_true rfl) g39.1 g39.2 (D_79 W_prog_15_method_157_code_224 23 rfl rfl) (fun H40 locs40 hZ40 hS40 => ?_)
  exact b_M_spell_248 X hrec53 hf hZ40 hS40 (lv_sub hl [2, 3, 4, 5, 6, 7] rfl)

def f_M_spell_135 (rec53 : Int → Int → Int → Int → Int → zF → zB → zO) (K : Nat) : Nat → Int → Int → Int → Int → Int → Int → Int → zF → zB → zO
  | 0, _, _, _, _, _, _, _, _, _ => none
  | n + 1, l8, l7, l6, l5, l4, l1, l2, F, B => if r32 l8 then if r32 (6 * l1) then (if l8 ≤ (6 * l1) then f_M_spell_211 rec53 K l8 l7 l6 l5 l4 l1 l2 F B else if 0 ≤ (F 14 0 6) ∧ (F 14 0 6) < 3 then if 0 ≤ (l8 - 1) ∧ (l8 - 1) < 24000 then if r32 (B 13 (F 14 0 6) 28 (l8 - 1)) then if r32 l7 then (if (B 13 (F 14 0 6) 28 (l8 - 1)) ≤ l7 then f_M_spell_211 rec53 K l8 l7 l6 l5 l4 l1 l2 F B else if 0 ≤ l8 ∧ l8 < 24000 then f_M_spell_135 rec53 K n (l8 - 1) l7 l6 l5 l4 l1 l2 F (zup4 (zup4 B 13 (F 14 0 6) 28 l8 (B 13 (F 14 0 6) 28 (l8 - 1))) 13 (F 14 0 6) 29 l8 ((zup4 B 13 (F 14 0 6) 28 l8 (B 13 (F 14 0 6) 28 (l8 - 1))) 13 (F 14 0 6) 29 (l8 - 1))) else none) else none else none else none else none) else none else none
set_option maxHeartbeats 4000000 in
set_option maxRecDepth 100000 in
theorem b_M_spell_135 {D : va_G} {ca : Nat → ClassId} {ad : Nat → Int → Nat → Nat} {L : List Nat} {aS vS : Nat → Nat} {A : Nat → Prop} {p : Program} {l : Launch} {e : Env} {s : State} {m : MethodId} {args : Array Value} {below : List Frame} {meth : Method} {c : Code} {K : Nat} {r : Int} {F9 : zF} {B9 : zB} (X : zX D ca L aS vS A p s m args meth c prog_15_method_157_code 10 (Option.none : Option Jvm.ClassFile.FieldType) "StaveHouseModel") {rec53 : Int → Int → Int → Int → Int → zF → zB → zO} (hrec53 : ∀ {l6 : Int} {l5 : Int} {l4 : Int} {l1 : Int} {l2 : Int} {F : zF} {B : zB} {H : Heap} {locs : List Loc} {ls : Array Slot}, rec53 l6 l5 l4 l1 l2 F B = some (r, F9, B9) → zH D ca ad lnM nM L F B A H → va_S A s.heap H locs → lv_has ls 10 [(6, .int (iI l6)), (5, .int (iI l5)), (4, .int (iI l4)), (0, .ref (ad 14 0 0)), (1, .int (iI l1)), (2, .int (iI l2))] → W p l e ({ frames := 2, cells := 0, slots := 0, locals := 43 } : Room) s m args below meth c H locs 0 0 (MQ below (Q_M_spell D ca ad L r F9 B9 A) args s 0 0 A) (F0 m 53 ls [])) : ∀ {n : Nat} {l8 : Int} {l7 : Int} {l6 : Int} {l5 : Int} {l4 : Int} {l1 : Int} {l2 : Int} {F : zF} {B : zB} {H : Heap} {locs : List Loc} {ls : Array Slot}, f_M_spell_135 rec53 K n l8 l7 l6 l5 l4 l1 l2 F B = some (r, F9, B9) → zH D ca ad lnM nM L F B A H → va_S A s.heap H locs → lv_has ls 10 [(8, .int (iI l8)), (7, .int (iI l7)), (6, .int (iI l6)), (5, .int (iI l5)), (4, .int (iI l4)), (0, .ref (ad 14 0 0)), (1, .int (iI l1)), (2, .int (iI l2))] → W p l e ({ frames := 2, cells := 0, slots := 0, locals := 43 } : Room) s m args below meth c H locs 0 0 (MQ below (Q_M_spell D ca ad L r F9 B9 A) args s 0 0 A) (F0 m 135 ls []) := by
  obtain ⟨hx, hb, hr, hml, hown, hts, hlk, hK, hA, hL, hX⟩ := id X
  intro n
  induction n with
  | zero =>
    intros
    rename_i hf _ _ _
    cases hf
  | succ n ih =>
    intro l8 l7 l6 l5 l4 l1 l2 F B H locs ls hf hZ hS hl
    replace hf : (if r32 l8 then if r32 (6 * l1) then (if l8 ≤ (6 * l1) then f_M_spell_211 rec53 K l8 l7 l6 l5 l4 l1 l2 F B else if 0 ≤ (F 14 0 6) ∧ (F 14 0 6) < 3 then if 0 ≤ (l8 - 1) ∧ (l8 - 1) < 24000 then if r32 (B 13 (F 14 0 6) 28 (l8 - 1)) then if r32 l7 then (if (B 13 (F 14 0 6) 28 (l8 - 1)) ≤ l7 then f_M_spell_211 rec53 K l8 l7 l6 l5 l4 l1 l2 F B else if 0 ≤ l8 ∧ l8 < 24000 then f_M_spell_135 rec53 K n (l8 - 1) l7 l6 l5 l4 l1 l2 F (zup4 (zup4 B 13 (F 14 0 6) 28 l8 (B 13 (F 14 0 6) 28 (l8 - 1))) 13 (F 14 0 6) 29 l8 ((zup4 B 13 (F 14 0 6) 28 l8 (B 13 (F 14 0 6) 28 (l8 - 1))) 13 (F 14 0 6) 29 (l8 - 1))) else none) else none else none else none else none) else none else none) = some (r, F9, B9) := hf
    refine lv_iload hx hb (D_21 W_prog_15_method_157_code_128 7 rfl rfl) (lv_at hl 0 rfl) ?_
    refine lv_bipush (v := iI 6) hx hb (D_16 W_prog_15_method_157_code_128 9 rfl rfl rfl) (by decide) ?_
    refine lv_iload_n hx hb (D_27 W_prog_15_method_157_code_128 11 rfl rfl) rfl (lv_at hl 6 rfl) ?_
    refine zmul hx hb (D_104 W_prog_15_method_157_code_128 12 rfl rfl) ?_
    obtain ⟨g23, hf⟩ := gif hf
    obtain ⟨g24, hf⟩ := gif hf
    refine zle (tgt := 211) hx hb g23 g24 (D_164 W_prog_15_method_157_code_128 13 rfl rfl rfl) (by decide) (fun h25 => ?_) (fun h25 => ?_)
    · replace hf := gpos hf h25
      exact b_M_spell_211 X hrec53 hf hZ hS (lv_sub hl [0, 1, 2, 3, 4, 5, 6, 7] rfl)
    · replace hf := gneg hf h25
      refine lv_aload_n hx hb (D_42 W_prog_15_method_157_code_128 16 rfl rfl) rfl (lv_at hl 5 rfl) ?_
      refine zget (ci := 14) (C := RX14) (T := TX14) (v := va_rf (zrf ad 13 (F 14 0 6))) (k := 6) hx hb hts inW_14 hown hK hZ (by decide) (by decide) rfl (by decide) k_11_4 rfl (D_180 W_prog_15_method_157_code_128 17 rfl rfl rfl) ?_
      obtain ⟨g26, hf⟩ := gif hf
      refine zunrf g26.1 ?_
      refine zget (ci := 13) (C := RX13) (T := TX13) (v := .ref (ad 13 (F 14 0 6) (28 + 1))) (k := 28) hx hb hts inW_13 hown hK hZ g26.1 g26.2 rfl (by decide) k_9_174 rfl (D_180 W_prog_15_method_157_code_128 20 rfl rfl rfl) ?_
      refine lv_iload hx hb (D_21 W_prog_15_method_157_code_128 23 rfl rfl) (lv_at hl 0 rfl) ?_
      refine lv_iconst (v := iI 1) hx hb (D_4 W_prog_15_method_157_code_128 25 rfl rfl) rfl ?_
      refine zsub hx hb (D_100 W_prog_15_method_157_code_128 26 rfl rfl) ?_
      obtain ⟨g27, hf⟩ := gif hf
      refine zald (ci := 13) (k := 28) hx hb hK rfl hZ g26.1 g26.2 rfl (Nat.le_of_ble_eq_true rfl) g27.1 g27.2 (D_46 W_prog_15_method_157_code_128 27 rfl rfl) ?_
      refine lv_iload hx hb (D_21 W_prog_15_method_157_code_128 28 rfl rfl) (lv_at hl 1 rfl) ?_
      obtain ⟨g28, hf⟩ := gif hf
      obtain ⟨g29, hf⟩ := gif hf
      refine zle (tgt := 211) hx hb g28 g29 (D_164 W_prog_15_method_157_code_128 30 rfl rfl rfl) (by decide) (fun h30 => ?_) (fun h30 => ?_)
      · replace hf := gpos hf h30
        exact b_M_spell_211 X hrec53 hf hZ hS (lv_sub hl [0, 1, 2, 3, 4, 5, 6, 7] rfl)
      · replace hf := gneg hf h30
        refine lv_aload_n hx hb (D_42 W_prog_15_method_157_code_160 1 rfl rfl) rfl (lv_at hl 5 rfl) ?_
        refine zget (ci := 14) (C := RX14) (T := TX14) (v := va_rf (zrf ad 13 (F 14 0 6))) (k := 6) hx hb hts inW_14 hown hK hZ (by decide) (by decide) rfl (by decide) k_11_4 rfl (D_180 W_prog_15_method_157_code_160 2 rfl rfl rfl) ?_
        refine zunrf g26.1 ?_
        refine zget (ci := 13) (C := RX13) (T := TX13) (v := .ref (ad 13 (F 14 0 6) (28 + 1))) (k := 28) hx hb hts inW_13 hown hK hZ g26.1 g26.2 rfl (by decide) k_9_174 rfl (D_180 W_prog_15_method_157_code_160 5 rfl rfl rfl) ?_
        refine lv_iload hx hb (D_21 W_prog_15_method_157_code_160 8 rfl rfl) (lv_at hl 0 rfl) ?_
        refine lv_aload_n hx hb (D_42 W_prog_15_method_157_code_160 10 rfl rfl) rfl (lv_at hl 5 rfl) ?_
        refine zget (ci := 14) (C := RX14) (T := TX14) (v := va_rf (zrf ad 13 (F 14 0 6))) (k := 6) hx hb hts inW_14 hown hK hZ (by decide) (by decide) rfl (by decide) k_11_4 rfl (D_180 W_prog_15_method_157_code_160 11 rfl rfl rfl) ?_
        refine zunrf g26.1 ?_
        refine zget (ci := 13) (C := RX13) (T := TX13) (v := .ref (ad 13 (F 14 0 6) (28 + 1))) (k := 28) hx hb hts inW_13 hown hK hZ g26.1 g26.2 rfl (by decide) k_9_174 rfl (D_180 W_prog_15_method_157_code_160 14 rfl rfl rfl) ?_
        refine lv_iload hx hb (D_21 W_prog_15_method_157_code_160 17 rfl rfl) (lv_at hl 0 rfl) ?_
        refine lv_iconst (v := iI 1) hx hb (D_4 W_prog_15_method_157_code_160 19 rfl rfl) rfl ?_
        refine zsub hx hb (D_100 W_prog_15_method_157_code_160 20 rfl rfl) ?_
        refine zald (ci := 13) (k := 28) hx hb hK rfl hZ g26.1 g26.2 rfl (Nat.le_of_ble_eq_true rfl) g27.1 g27.2 (D_46 W_prog_15_method_157_code_160 21 rfl rfl) ?_
        obtain ⟨g31, hf⟩ := gif hf
        refine zast (ci := 13) (k := 28) hx hb hK rfl hZ hS g26.1 g26.2 rfl (Nat.le_of_ble_eq_true rfl) g31.1 g31.2 (D_79 W_prog_15_method_157_code_160 22 rfl rfl) (fun H33 locs33 hZ33 hS33 => ?_)
        refine lv_aload_n hx hb (D_42 W_prog_15_method_157_code_160 23 rfl rfl) rfl (lv_at hl 5 rfl) ?_
        refine zget (ci := 14) (C := RX14) (T := TX14) (v := va_rf (zrf ad 13 (F 14 0 6))) (k := 6) hx hb hts inW_14 hown hK hZ33 (by decide) (by decide) rfl (by decide) k_11_4 rfl (D_180 W_prog_15_method_157_code_160 24 rfl rfl rfl) ?_
        refine zunrf g26.1 ?_
        refine zget (ci := 13) (C := RX13) (T := TX13) (v := .ref (ad 13 (F 14 0 6) (29 + 1))) (k := 29) hx hb hts inW_13 hown hK hZ33 g26.1 g26.2 rfl (by decide) k_9_176 rfl (D_180 W_prog_15_method_157_code_160 27 rfl rfl rfl) ?_
        refine lv_iload hx hb (D_21 W_prog_15_method_157_code_160 30 rfl rfl) (lv_at hl 0 rfl) ?_
        refine lv_aload_n hx hb (D_42 W_prog_15_method_157_code_192 0 rfl rfl) rfl (lv_at hl 5 rfl) ?_
        refine zget (ci := 14) (C := RX14) (T := TX14) (v := va_rf (zrf ad 13 (F 14 0 6))) (k := 6) hx hb hts inW_14 hown hK hZ33 (by decide) (by decide) rfl (by decide) k_11_4 rfl (D_180 W_prog_15_method_157_code_192 1 rfl rfl rfl) ?_
        refine zunrf g26.1 ?_
        refine zget (ci := 13) (C := RX13) (T := TX13) (v := .ref (ad 13 (F 14 0 6) (29 + 1))) (k := 29) hx hb hts inW_13 hown hK hZ33 g26.1 g26.2 rfl (by decide) k_9_176 rfl (D_180 W_prog_15_method_157_code_192 4 rfl rfl rfl) ?_
        refine lv_iload hx hb (D_21 W_prog_15_method_157_code_192 7 rfl rfl) (lv_at hl 0 rfl) ?_
        refine lv_iconst (v := iI 1) hx hb (D_4 W_prog_15_method_157_code_192 9 rfl rfl) rfl ?_
        refine zsub hx hb (D_100 W_prog_15_method_157_code_192 10 rfl rfl) ?_
        refine zald (ci := 13) (k := 29) hx hb hK rfl hZ33 g26.1 g26.2 rfl (Nat.le_of_ble_eq_true rfl) g27.1 g27.2 (D_46 W_prog_15_method_157_code_192 11 rfl rfl) ?_
        refine zast (ci := 13) (k := 29) hx hb hK rfl hZ33 hS33 g26.1 g26.2 rfl (Nat.le_of_ble_eq_true rfl) g31.1 g31.2 (D_79 W_prog_15_method_157_code_192 12 rfl rfl) (fun H34 locs34 hZ34 hS34 => ?_)
        refine lv_iinc (v := iI (l8 - 1)) (lv' := [(8, .int (iI (l8 - 1))), (7, .int (iI l7)), (6, .int (iI l6)), (5, .int (iI l5)), (4, .int (iI l4)), (0, .ref (ad 14 0 0)), (1, .int (iI l1)), (2, .int (iI l2))]) hx hb d_15_157_205 hl (k := 0) rfl (by rw [show Int32.ofInt (-1) = iI (-1) from rfl, iI_add]; congr 1) (by decide) rfl (fun ls hl => ?_)
        refine lv_goto (tgt := 135) hx hb (D_167 W_prog_15_method_157_code_192 16 rfl rfl rfl) (by decide) ?_
        exact ih hf hZ34 hS34 (lv_sub hl [0, 1, 2, 3, 4, 5, 6, 7] rfl)

def f_M_spell_106 (rec53 : Int → Int → Int → Int → Int → zF → zB → zO) (K : Nat) : Nat → Int → Int → Int → Int → Int → Int → Int → Int → zF → zB → zO
  | 0, _, _, _, _, _, _, _, _, _, _ => none
  | n + 1, l9, l8, l7, l6, l5, l4, l1, l2, F, B => if r32 l9 then if r32 l8 then (if l8 ≤ l9 then f_M_spell_135 rec53 K K l8 l7 l6 l5 l4 l1 l2 F B else if 0 ≤ (F 14 0 6) ∧ (F 14 0 6) < 3 then if 0 ≤ l9 ∧ l9 < 24000 then if r32 (B 13 (F 14 0 6) 28 l9) then if r32 l7 then (if (B 13 (F 14 0 6) 28 l9) = l7 then some (0, F, B) else f_M_spell_106 rec53 K n (l9 + 1) l8 l7 l6 l5 l4 l1 l2 F B) else none else none else none else none) else none else none
set_option maxHeartbeats 4000000 in
set_option maxRecDepth 100000 in
theorem b_M_spell_106 {D : va_G} {ca : Nat → ClassId} {ad : Nat → Int → Nat → Nat} {L : List Nat} {aS vS : Nat → Nat} {A : Nat → Prop} {p : Program} {l : Launch} {e : Env} {s : State} {m : MethodId} {args : Array Value} {below : List Frame} {meth : Method} {c : Code} {K : Nat} {r : Int} {F9 : zF} {B9 : zB} (X : zX D ca L aS vS A p s m args meth c prog_15_method_157_code 10 (Option.none : Option Jvm.ClassFile.FieldType) "StaveHouseModel") {rec53 : Int → Int → Int → Int → Int → zF → zB → zO} (hrec53 : ∀ {l6 : Int} {l5 : Int} {l4 : Int} {l1 : Int} {l2 : Int} {F : zF} {B : zB} {H : Heap} {locs : List Loc} {ls : Array Slot}, rec53 l6 l5 l4 l1 l2 F B = some (r, F9, B9) → zH D ca ad lnM nM L F B A H → va_S A s.heap H locs → lv_has ls 10 [(6, .int (iI l6)), (5, .int (iI l5)), (4, .int (iI l4)), (0, .ref (ad 14 0 0)), (1, .int (iI l1)), (2, .int (iI l2))] → W p l e ({ frames := 2, cells := 0, slots := 0, locals := 43 } : Room) s m args below meth c H locs 0 0 (MQ below (Q_M_spell D ca ad L r F9 B9 A) args s 0 0 A) (F0 m 53 ls [])) : ∀ {n : Nat} {l9 : Int} {l8 : Int} {l7 : Int} {l6 : Int} {l5 : Int} {l4 : Int} {l1 : Int} {l2 : Int} {F : zF} {B : zB} {H : Heap} {locs : List Loc} {ls : Array Slot}, f_M_spell_106 rec53 K n l9 l8 l7 l6 l5 l4 l1 l2 F B = some (r, F9, B9) → zH D ca ad lnM nM L F B A H → va_S A s.heap H locs → lv_has ls 10 [(9, .int (iI l9)), (8, .int (iI l8)), (7, .int (iI l7)), (6, .int (iI l6)), (5, .int (iI l5)), (4, .int (iI l4)), (0, .ref (ad 14 0 0)), (1, .int (iI l1)), (2, .int (iI l2))] → W p l e ({ frames := 2, cells := 0, slots := 0, locals := 43 } : Room) s m args below meth c H locs 0 0 (MQ below (Q_M_spell D ca ad L r F9 B9 A) args s 0 0 A) (F0 m 106 ls []) := by
  obtain ⟨hx, hb, hr, hml, hown, hts, hlk, hK, hA, hL, hX⟩ := id X
  intro n
  induction n with
  | zero =>
    intros
    rename_i hf _ _ _
    cases hf
  | succ n ih =>
    intro l9 l8 l7 l6 l5 l4 l1 l2 F B H locs ls hf hZ hS hl
    replace hf : (if r32 l9 then if r32 l8 then (if l8 ≤ l9 then f_M_spell_135 rec53 K K l8 l7 l6 l5 l4 l1 l2 F B else if 0 ≤ (F 14 0 6) ∧ (F 14 0 6) < 3 then if 0 ≤ l9 ∧ l9 < 24000 then if r32 (B 13 (F 14 0 6) 28 l9) then if r32 l7 then (if (B 13 (F 14 0 6) 28 l9) = l7 then some (0, F, B) else f_M_spell_106 rec53 K n (l9 + 1) l8 l7 l6 l5 l4 l1 l2 F B) else none else none else none else none) else none else none) = some (r, F9, B9) := hf
    refine lv_iload hx hb (D_21 W_prog_15_method_157_code_96 10 rfl rfl) (lv_at hl 0 rfl) ?_
    refine lv_iload hx hb (D_21 W_prog_15_method_157_code_96 12 rfl rfl) (lv_at hl 1 rfl) ?_
    obtain ⟨g15, hf⟩ := gif hf
    obtain ⟨g16, hf⟩ := gif hf
    refine zge (tgt := 135) hx hb g15 g16 (D_162 W_prog_15_method_157_code_96 14 rfl rfl rfl) (by decide) (fun h17 => ?_) (fun h17 => ?_)
    · replace hf := gpos hf h17
      exact b_M_spell_135 X hrec53 hf hZ hS (lv_sub hl [1, 2, 3, 4, 5, 6, 7, 8] rfl)
    · replace hf := gneg hf h17
      refine lv_aload_n hx hb (D_42 W_prog_15_method_157_code_96 17 rfl rfl) rfl (lv_at hl 6 rfl) ?_
      refine zget (ci := 14) (C := RX14) (T := TX14) (v := va_rf (zrf ad 13 (F 14 0 6))) (k := 6) hx hb hts inW_14 hown hK hZ (by decide) (by decide) rfl (by decide) k_11_4 rfl (D_180 W_prog_15_method_157_code_96 18 rfl rfl rfl) ?_
      obtain ⟨g18, hf⟩ := gif hf
      refine zunrf g18.1 ?_
      refine zget (ci := 13) (C := RX13) (T := TX13) (v := .ref (ad 13 (F 14 0 6) (28 + 1))) (k := 28) hx hb hts inW_13 hown hK hZ g18.1 g18.2 rfl (by decide) k_9_174 rfl (D_180 W_prog_15_method_157_code_96 21 rfl rfl rfl) ?_
      refine lv_iload hx hb (D_21 W_prog_15_method_157_code_96 24 rfl rfl) (lv_at hl 0 rfl) ?_
      obtain ⟨g19, hf⟩ := gif hf
      refine zald (ci := 13) (k := 28) hx hb hK rfl hZ g18.1 g18.2 rfl (Nat.le_of_ble_eq_true rfl) g19.1 g19.2 (D_46 W_prog_15_method_157_code_96 26 rfl rfl) ?_
      refine lv_iload hx hb (D_21 W_prog_15_method_157_code_96 27 rfl rfl) (lv_at hl 2 rfl) ?_
      obtain ⟨g20, hf⟩ := gif hf
      obtain ⟨g21, hf⟩ := gif hf
      refine zne (tgt := 129) hx hb g20 g21 (D_160 W_prog_15_method_157_code_96 29 rfl rfl rfl) (by decide) (fun h22 => ?_) (fun h22 => ?_)
      · replace hf := gneg hf h22
        refine lv_iinc (v := iI (l9 + 1)) (lv' := [(9, .int (iI (l9 + 1))), (8, .int (iI l8)), (7, .int (iI l7)), (6, .int (iI l6)), (5, .int (iI l5)), (4, .int (iI l4)), (0, .ref (ad 14 0 0)), (1, .int (iI l1)), (2, .int (iI l2))]) hx hb d_15_157_129 hl (k := 0) rfl (iI_add _ 1) (by decide) rfl (fun ls hl => ?_)
        refine lv_goto (tgt := 106) hx hb (D_167 W_prog_15_method_157_code_128 4 rfl rfl rfl) (by decide) ?_
        exact ih hf hZ hS (lv_sub hl [0, 1, 2, 3, 4, 5, 6, 7, 8] rfl)
      · replace hf := gpos hf h22
        cases hf
        exact W.vret hx hb hr (fun t ht hW => ⟨⟨(), rfl, trivial, by rw [ht]; exact hZ, va_K.moved hW.alike hK⟩, hS.F ht⟩) hS.2.2 (D_177 W_prog_15_method_157_code_128 0 rfl rfl) hlk

def f_M_spell_53 (K : Nat) : Nat → Int → Int → Int → Int → Int → zF → zB → zO
  | 0, _, _, _, _, _, _, _ => none
  | n + 1, l6, l5, l4, l1, l2, F, B => if r32 l6 then (if 9 ≤ l6 then some (0, F, B) else zbind (f_M_tone K ((7 * l6) + l4) l5 F B) (fun r9 F9 B9 => if r32 r9 then if r32 l2 then (if r9 = l2 then if 0 ≤ (F9 14 0 6) ∧ (F9 14 0 6) < 3 then if 0 ≤ l1 ∧ l1 < 4000 then f_M_spell_106 (f_M_spell_53 K n) K K (6 * l1) ((6 * l1) + (B9 13 (F9 14 0 6) 21 l1)) ((7 * l6) + l4) l6 l5 l4 l1 l2 F9 B9 else none else none else f_M_spell_248 (f_M_spell_53 K n) K l6 l5 l4 l1 l2 F9 B9) else none else none)) else none
set_option maxHeartbeats 4000000 in
set_option maxRecDepth 100000 in
theorem b_M_spell_53 {D : va_G} {ca : Nat → ClassId} {ad : Nat → Int → Nat → Nat} {L : List Nat} {aS vS : Nat → Nat} {A : Nat → Prop} {p : Program} {l : Launch} {e : Env} {s : State} {m : MethodId} {args : Array Value} {below : List Frame} {meth : Method} {c : Code} {K : Nat} {r : Int} {F9 : zF} {B9 : zB} (X : zX D ca L aS vS A p s m args meth c prog_15_method_157_code 10 (Option.none : Option Jvm.ClassFile.FieldType) "StaveHouseModel") : ∀ {n : Nat} {l6 : Int} {l5 : Int} {l4 : Int} {l1 : Int} {l2 : Int} {F : zF} {B : zB} {H : Heap} {locs : List Loc} {ls : Array Slot}, f_M_spell_53 K n l6 l5 l4 l1 l2 F B = some (r, F9, B9) → zH D ca ad lnM nM L F B A H → va_S A s.heap H locs → lv_has ls 10 [(6, .int (iI l6)), (5, .int (iI l5)), (4, .int (iI l4)), (0, .ref (ad 14 0 0)), (1, .int (iI l1)), (2, .int (iI l2))] → W p l e ({ frames := 2, cells := 0, slots := 0, locals := 43 } : Room) s m args below meth c H locs 0 0 (MQ below (Q_M_spell D ca ad L r F9 B9 A) args s 0 0 A) (F0 m 53 ls []) := by
  obtain ⟨hx, hb, hr, hml, hown, hts, hlk, hK, hA, hL, hX⟩ := id X
  intro n
  induction n with
  | zero =>
    intros
    rename_i hf _ _ _
    cases hf
  | succ n ih =>
    intro l6 l5 l4 l1 l2 F B H locs ls hf hZ hS hl
    replace hf : (if r32 l6 then (if 9 ≤ l6 then some (0, F, B) else zbind (f_M_tone K ((7 * l6) + l4) l5 F B) (fun r9 F9 B9 => if r32 r9 then if r32 l2 then (if r9 = l2 then if 0 ≤ (F9 14 0 6) ∧ (F9 14 0 6) < 3 then if 0 ≤ l1 ∧ l1 < 4000 then f_M_spell_106 (f_M_spell_53 K n) K K (6 * l1) ((6 * l1) + (B9 13 (F9 14 0 6) 21 l1)) ((7 * l6) + l4) l6 l5 l4 l1 l2 F9 B9 else none else none else f_M_spell_248 (f_M_spell_53 K n) K l6 l5 l4 l1 l2 F9 B9) else none else none)) else none) = some (r, F9, B9) := hf
    refine lv_iload hx hb (D_21 W_prog_15_method_157_code_32 21 rfl rfl) (lv_at hl 0 rfl) ?_
    refine lv_bipush (v := iI 9) hx hb (D_16 W_prog_15_method_157_code_32 23 rfl rfl rfl) (by decide) ?_
    obtain ⟨g7, hf⟩ := gif hf
    refine zge (tgt := 254) hx hb g7 (by decide) (D_162 W_prog_15_method_157_code_32 25 rfl rfl rfl) (by decide) (fun h8 => ?_) (fun h8 => ?_)
    · replace hf := gpos hf h8
      cases hf
      exact W.vret hx hb hr (fun t ht hW => ⟨⟨(), rfl, trivial, by rw [ht]; exact hZ, va_K.moved hW.alike hK⟩, hS.F ht⟩) hS.2.2 (D_177 W_prog_15_method_157_code_224 30 rfl rfl) hlk
    · replace hf := gneg hf h8
      refine lv_bipush (v := iI 7) hx hb (D_16 W_prog_15_method_157_code_32 28 rfl rfl rfl) (by decide) ?_
      refine lv_iload hx hb (D_21 W_prog_15_method_157_code_32 30 rfl rfl) (lv_at hl 0 rfl) ?_
      refine zmul hx hb (D_104 W_prog_15_method_157_code_64 0 rfl rfl) ?_
      refine lv_iload hx hb (D_21 W_prog_15_method_157_code_64 1 rfl rfl) (lv_at hl 2 rfl) ?_
      refine zadd hx hb (D_96 W_prog_15_method_157_code_64 3 rfl rfl) ?_
      refine lv_istore (lv' := [(7, .int (iI ((7 * l6) + l4))), (6, .int (iI l6)), (5, .int (iI l5)), (4, .int (iI l4)), (0, .ref (ad 14 0 0)), (1, .int (iI l1)), (2, .int (iI l2))]) hx hb (D_54 W_prog_15_method_157_code_64 4 rfl rfl) hl (by decide) rfl (fun ls hl => ?_)
      refine lv_iload hx hb (D_21 W_prog_15_method_157_code_64 6 rfl rfl) (lv_at hl 0 rfl) ?_
      refine lv_iload hx hb (D_21 W_prog_15_method_157_code_64 8 rfl rfl) (lv_at hl 2 rfl) ?_
      obtain ⟨r9, F9, B9, hc9, hf⟩ := gbind hf
      refine va_calli (va_runS (As := [.int (iI ((7 * l6) + l4)), .int (iI l5)]) (rest := []) ⟨hx, hb, hml, hown, hts⟩ (c_M_tone (l := l) hc9) (va_cwS 2 hts (gdS k_12_158 k_12_159 k_1_9 k_12_160) rfl rfl rfl (by decide +kernel) ⟨Nat.le_of_ble_eq_true rfl, Nat.le_of_ble_eq_true rfl⟩) (zPS X hZ hS [.int (iI ((7 * l6) + l4)), .int (iI l5)]) rfl rfl hl.1 rfl (lv_room (Nat.le_of_ble_eq_true rfl)) (D_184 W_prog_15_method_157_code_64 10 rfl rfl rfl) ⟨Nat.le_of_ble_eq_true rfl, Nat.le_of_ble_eq_true rfl⟩) hS (fun q _ h => zAin X hS q h) (zAin X hS) (fun p9 u9 t9 H9 locs9 ht9 hv9 hw9 hB9 hz9 hk9 hS9 => ?_)
      have hZ9 := zBack X ht9 hB9
      subst hw9
      refine lv_iload_n hx hb (D_28 W_prog_15_method_157_code_64 13 rfl rfl) rfl (lv_at hl 6 rfl) ?_
      obtain ⟨g10, hf⟩ := gif hf
      obtain ⟨g11, hf⟩ := gif hf
      refine zeq (tgt := 84) hx hb g10 g11 (D_159 W_prog_15_method_157_code_64 14 rfl rfl rfl) (by decide) (fun h12 => ?_) (fun h12 => ?_)
      · replace hf := gpos hf h12
        refine lv_bipush (v := iI 6) hx hb (D_16 W_prog_15_method_157_code_64 20 rfl rfl rfl) (by decide) ?_
        refine lv_iload_n hx hb (D_27 W_prog_15_method_157_code_64 22 rfl rfl) rfl (lv_at hl 5 rfl) ?_
        refine zmul hx hb (D_104 W_prog_15_method_157_code_64 23 rfl rfl) ?_
        refine lv_aload_n hx hb (D_42 W_prog_15_method_157_code_64 24 rfl rfl) rfl (lv_at hl 4 rfl) ?_
        refine zget (ci := 14) (C := RX14) (T := TX14) (v := va_rf (zrf ad 13 (F9 14 0 6))) (k := 6) hx hb hts inW_14 hown hK hZ9 (by decide) (by decide) rfl (by decide) k_11_4 rfl (D_180 W_prog_15_method_157_code_64 25 rfl rfl rfl) ?_
        obtain ⟨g13, hf⟩ := gif hf
        refine zunrf g13.1 ?_
        refine zget (ci := 13) (C := RX13) (T := TX13) (v := .ref (ad 13 (F9 14 0 6) (21 + 1))) (k := 21) hx hb hts inW_13 hown hK hZ9 g13.1 g13.2 rfl (by decide) k_9_160 rfl (D_180 W_prog_15_method_157_code_64 28 rfl rfl rfl) ?_
        refine lv_iload_n hx hb (D_27 W_prog_15_method_157_code_64 31 rfl rfl) rfl (lv_at hl 5 rfl) ?_
        obtain ⟨g14, hf⟩ := gif hf
        refine zald (ci := 13) (k := 21) hx hb hK rfl hZ9 g13.1 g13.2 rfl (Nat.le_of_ble_eq_true rfl) g14.1 g14.2 (D_46 W_prog_15_method_157_code_96 0 rfl rfl) ?_
        refine zadd hx hb (D_96 W_prog_15_method_157_code_96 1 rfl rfl) ?_
        refine lv_istore (lv' := [(8, .int (iI ((6 * l1) + (B9 13 (F9 14 0 6) 21 l1)))), (7, .int (iI ((7 * l6) + l4))), (6, .int (iI l6)), (5, .int (iI l5)), (4, .int (iI l4)), (0, .ref (ad 14 0 0)), (1, .int (iI l1)), (2, .int (iI l2))]) hx hb (D_54 W_prog_15_method_157_code_96 2 rfl rfl) hl (by decide) rfl (fun ls hl => ?_)
        refine lv_bipush (v := iI 6) hx hb (D_16 W_prog_15_method_157_code_96 4 rfl rfl rfl) (by decide) ?_
        refine lv_iload_n hx hb (D_27 W_prog_15_method_157_code_96 6 rfl rfl) rfl (lv_at hl 6 rfl) ?_
        refine zmul hx hb (D_104 W_prog_15_method_157_code_96 7 rfl rfl) ?_
        refine lv_istore (lv' := [(9, .int (iI (6 * l1))), (8, .int (iI ((6 * l1) + (B9 13 (F9 14 0 6) 21 l1)))), (7, .int (iI ((7 * l6) + l4))), (6, .int (iI l6)), (5, .int (iI l5)), (4, .int (iI l4)), (0, .ref (ad 14 0 0)), (1, .int (iI l1)), (2, .int (iI l2))]) hx hb (D_54 W_prog_15_method_157_code_96 8 rfl rfl) hl (by decide) rfl (fun ls hl => ?_)
        exact b_M_spell_106 X ih hf hZ9 hS9 (lv_sub hl [0, 1, 2, 3, 4, 5, 6, 7, 8] rfl)
      · replace hf := gneg hf h12
        refine lv_goto (tgt := 248) hx hb (D_167 W_prog_15_method_157_code_64 17 rfl rfl rfl) (by decide) ?_
        exact b_M_spell_248 X ih hf hZ9 hS9 (lv_sub hl [1, 2, 3, 4, 5, 6] rfl)

def f_M_spell_10 (K : Nat) : Nat → Int → Int → Int → zF → zB → zO
  | 0, _, _, _, _, _ => none
  | n + 1, l3, l1, l2, F, B => zbind (f_M_mod K ((7 * l3) - l2) 12 F B) (fun r2 F2 B2 => if r32 r2 then (if r2 = 0 then zbind (f_M_mod K (4 * l3) 7 F2 B2) (fun r5 F5 B5 => zbind (f_M_floor K (l3 + 1) 7 F5 B5) (fun r6 F6 B6 => f_M_spell_53 K K 0 r6 r5 l1 l2 F6 B6)) else f_M_spell_10 K n (l3 + 1) l1 l2 F2 B2) else none)
set_option maxHeartbeats 4000000 in
set_option maxRecDepth 100000 in
theorem b_M_spell_10 {D : va_G} {ca : Nat → ClassId} {ad : Nat → Int → Nat → Nat} {L : List Nat} {aS vS : Nat → Nat} {A : Nat → Prop} {p : Program} {l : Launch} {e : Env} {s : State} {m : MethodId} {args : Array Value} {below : List Frame} {meth : Method} {c : Code} {K : Nat} {r : Int} {F9 : zF} {B9 : zB} (X : zX D ca L aS vS A p s m args meth c prog_15_method_157_code 10 (Option.none : Option Jvm.ClassFile.FieldType) "StaveHouseModel") : ∀ {n : Nat} {l3 : Int} {l1 : Int} {l2 : Int} {F : zF} {B : zB} {H : Heap} {locs : List Loc} {ls : Array Slot}, f_M_spell_10 K n l3 l1 l2 F B = some (r, F9, B9) → zH D ca ad lnM nM L F B A H → va_S A s.heap H locs → lv_has ls 10 [(3, .int (iI l3)), (0, .ref (ad 14 0 0)), (1, .int (iI l1)), (2, .int (iI l2))] → W p l e ({ frames := 2, cells := 0, slots := 0, locals := 43 } : Room) s m args below meth c H locs 0 0 (MQ below (Q_M_spell D ca ad L r F9 B9 A) args s 0 0 A) (F0 m 10 ls []) := by
  obtain ⟨hx, hb, hr, hml, hown, hts, hlk, hK, hA, hL, hX⟩ := id X
  intro n
  induction n with
  | zero =>
    intros
    rename_i hf _ _ _
    cases hf
  | succ n ih =>
    intro l3 l1 l2 F B H locs ls hf hZ hS hl
    replace hf : (zbind (f_M_mod K ((7 * l3) - l2) 12 F B) (fun r2 F2 B2 => if r32 r2 then (if r2 = 0 then zbind (f_M_mod K (4 * l3) 7 F2 B2) (fun r5 F5 B5 => zbind (f_M_floor K (l3 + 1) 7 F5 B5) (fun r6 F6 B6 => f_M_spell_53 K K 0 r6 r5 l1 l2 F6 B6)) else f_M_spell_10 K n (l3 + 1) l1 l2 F2 B2) else none)) = some (r, F9, B9) := hf
    refine lv_bipush (v := iI 7) hx hb (D_16 W_prog_15_method_157_code_0 10 rfl rfl rfl) (by decide) ?_
    refine lv_iload_n hx hb (D_29 W_prog_15_method_157_code_0 12 rfl rfl) rfl (lv_at hl 0 rfl) ?_
    refine zmul hx hb (D_104 W_prog_15_method_157_code_0 13 rfl rfl) ?_
    refine lv_iload_n hx hb (D_28 W_prog_15_method_157_code_0 14 rfl rfl) rfl (lv_at hl 3 rfl) ?_
    refine zsub hx hb (D_100 W_prog_15_method_157_code_0 15 rfl rfl) ?_
    refine lv_bipush (v := iI 12) hx hb (D_16 W_prog_15_method_157_code_0 16 rfl rfl rfl) (by decide) ?_
    obtain ⟨r2, F2, B2, hc2, hf⟩ := gbind hf
    refine va_calli (va_runS (As := [.int (iI ((7 * l3) - l2)), .int (iI 12)]) (rest := []) ⟨hx, hb, hml, hown, hts⟩ (c_M_mod (l := l) hc2) (va_cwS 2 hts (gdS k_12_164 k_12_165 k_1_9 k_12_166) rfl rfl rfl (by decide +kernel) ⟨Nat.le_of_ble_eq_true rfl, Nat.le_of_ble_eq_true rfl⟩) (zPS X hZ hS [.int (iI ((7 * l3) - l2)), .int (iI 12)]) rfl rfl hl.1 rfl (lv_room (Nat.le_of_ble_eq_true rfl)) (D_184 W_prog_15_method_157_code_0 18 rfl rfl rfl) ⟨Nat.le_of_ble_eq_true rfl, Nat.le_of_ble_eq_true rfl⟩) hS (fun q _ h => zAin X hS q h) (zAin X hS) (fun p2 u2 t2 H2 locs2 ht2 hv2 hw2 hB2 hz2 hk2 hS2 => ?_)
    have hZ2 := zBack X ht2 hB2
    subst hw2
    obtain ⟨g3, hf⟩ := gif hf
    refine z0eq (tgt := 30) hx hb g3 (D_153 W_prog_15_method_157_code_0 21 rfl rfl rfl) (by decide) (fun h4 => ?_) (fun h4 => ?_)
    · replace hf := gpos hf h4
      refine lv_iconst (v := iI 4) hx hb (D_7 W_prog_15_method_157_code_0 30 rfl rfl) rfl ?_
      refine lv_iload_n hx hb (D_29 W_prog_15_method_157_code_0 31 rfl rfl) rfl (lv_at hl 0 rfl) ?_
      refine zmul hx hb (D_104 W_prog_15_method_157_code_32 0 rfl rfl) ?_
      refine lv_bipush (v := iI 7) hx hb (D_16 W_prog_15_method_157_code_32 1 rfl rfl rfl) (by decide) ?_
      obtain ⟨r5, F5, B5, hc5, hf⟩ := gbind hf
      refine va_calli (va_runS (As := [.int (iI (4 * l3)), .int (iI 7)]) (rest := []) ⟨hx, hb, hml, hown, hts⟩ (c_M_mod (l := l) hc5) (va_cwS 2 hts (gdS k_12_164 k_12_165 k_1_9 k_12_166) rfl rfl rfl (by decide +kernel) ⟨Nat.le_of_ble_eq_true rfl, Nat.le_of_ble_eq_true rfl⟩) (zPS X hZ2 hS2 [.int (iI (4 * l3)), .int (iI 7)]) rfl rfl hl.1 rfl (lv_room (Nat.le_of_ble_eq_true rfl)) (D_184 W_prog_15_method_157_code_32 3 rfl rfl rfl) ⟨Nat.le_of_ble_eq_true rfl, Nat.le_of_ble_eq_true rfl⟩) hS2 (fun q _ h => zAin X hS2 q h) (zAin X hS2) (fun p5 u5 t5 H5 locs5 ht5 hv5 hw5 hB5 hz5 hk5 hS5 => ?_)
      have hZ5 := zBack X ht5 hB5
      subst hw5
      refine lv_istore (lv' := [(4, .int (iI r5)), (3, .int (iI l3)), (0, .ref (ad 14 0 0)), (1, .int (iI l1)), (2, .int (iI l2))]) hx hb (D_54 W_prog_15_method_157_code_32 6 rfl rfl) hl (by decide) rfl (fun ls hl => ?_)
      refine lv_iload_n hx hb (D_29 W_prog_15_method_157_code_32 8 rfl rfl) rfl (lv_at hl 1 rfl) ?_
      refine lv_iconst (v := iI 1) hx hb (D_4 W_prog_15_method_157_code_32 9 rfl rfl) rfl ?_
      refine zadd hx hb (D_96 W_prog_15_method_157_code_32 10 rfl rfl) ?_
      refine lv_bipush (v := iI 7) hx hb (D_16 W_prog_15_method_157_code_32 11 rfl rfl rfl) (by decide) ?_
      obtain ⟨r6, F6, B6, hc6, hf⟩ := gbind hf
      refine va_calli (va_runS (As := [.int (iI (l3 + 1)), .int (iI 7)]) (rest := []) ⟨hx, hb, hml, hown, hts⟩ (c_M_floor (l := l) hc6) (va_cwS 2 hts (gdS k_12_167 k_12_168 k_1_9 k_12_169) rfl rfl rfl (by decide +kernel) ⟨Nat.le_of_ble_eq_true rfl, Nat.le_of_ble_eq_true rfl⟩) (zPS X hZ5 hS5 [.int (iI (l3 + 1)), .int (iI 7)]) rfl rfl hl.1 rfl (lv_room (Nat.le_of_ble_eq_true rfl)) (D_184 W_prog_15_method_157_code_32 13 rfl rfl rfl) ⟨Nat.le_of_ble_eq_true rfl, Nat.le_of_ble_eq_true rfl⟩) hS5 (fun q _ h => zAin X hS5 q h) (zAin X hS5) (fun p6 u6 t6 H6 locs6 ht6 hv6 hw6 hB6 hz6 hk6 hS6 => ?_)
      have hZ6 := zBack X ht6 hB6
      subst hw6
      refine lv_istore (lv' := [(5, .int (iI r6)), (4, .int (iI r5)), (3, .int (iI l3)), (0, .ref (ad 14 0 0)), (1, .int (iI l1)), (2, .int (iI l2))]) hx hb (D_54 W_prog_15_method_157_code_32 16 rfl rfl) hl (by decide) rfl (fun ls hl => ?_)
      refine lv_iconst (v := iI 0) hx hb (D_3 W_prog_15_method_157_code_32 18 rfl rfl) rfl ?_
      refine lv_istore (lv' := [(6, .int (iI 0)), (5, .int (iI r6)), (4, .int (iI r5)), (3, .int (iI l3)), (0, .ref (ad 14 0 0)), (1, .int (iI l1)), (2, .int (iI l2))]) hx hb (D_54 W_prog_15_method_157_code_32 19 rfl rfl) hl (by decide) rfl (fun ls hl => ?_)
      exact b_M_spell_53 X hf hZ6 hS6 (lv_sub hl [0, 1, 2, 4, 5, 6] rfl)
    · replace hf := gneg hf h4
      refine lv_iinc (v := iI (l3 + 1)) (lv' := [(3, .int (iI (l3 + 1))), (0, .ref (ad 14 0 0)), (1, .int (iI l1)), (2, .int (iI l2))]) hx hb d_15_157_24 hl (k := 0) rfl (iI_add _ 1) (by decide) rfl (fun ls hl => ?_)
      refine lv_goto (tgt := 10) hx hb (D_167 W_prog_15_method_157_code_0 27 rfl rfl rfl) (by decide) ?_
      exact ih hf hZ2 hS2 (lv_sub hl [0, 1, 2, 3] rfl)

def f_M_spell (K : Nat) (l1 : Int) (l2 : Int) (F : zF) (B : zB) : zO := if 0 ≤ (F 14 0 6) ∧ (F 14 0 6) < 3 then f_M_spell_10 K K ((F 13 (F 14 0 6) 2) - 5) l1 l2 F B else none
set_option maxHeartbeats 4000000 in
set_option maxRecDepth 100000 in
theorem c_M_spell {l : Launch} {D : va_G} {ca : Nat → ClassId} {ad : Nat → Int → Nat → Nat} {L : List Nat} {aS vS : Nat → Nat} {sz K : Nat}  {l1 : Int} {l2 : Int} {F F9 : zF} {B B9 : zB} {r : Int} (hf : f_M_spell K l1 l2 F B = some (r, F9, B9)) : Met l ({ cls := "StaveHouseModel", name := "spell", desc := "(II)V" } : Jvm.MethodName) (Cond.code ({ cls := "StaveHouseModel", name := "spell", desc := "(II)V" } : Jvm.MethodName) prog_15_method_157_code 10 (Option.none : Option Jvm.ClassFile.FieldType) :: wAll) ({ frames := 2, cells := 0, slots := 0, locals := 43 } : Room) (va_Pc [.ref (ad 14 0 0), .int (iI l1), .int (iI l2)] (zPre D ca ad lnM nM L aS vS F B sz)) (Q_M_spell D ca ad L r F9 B9 (zA L sz)) 0 0 (zA L sz) := by
  refine zMet (Qc := Q_M_spell D ca ad L r F9 B9) (lv := [(0, .ref (ad 14 0 0)), (1, .int (iI l1)), (2, .int (iI l2))]) (by decide) (Nat.le_of_ble_eq_true rfl) rfl (fun A p e s m below meth c ls X hZ hS hl => ?_)
  obtain ⟨hx, hb, hr, hml, hown, hts, hlk, hK, hA, hL, hX⟩ := id X
  replace hf : (if 0 ≤ (F 14 0 6) ∧ (F 14 0 6) < 3 then f_M_spell_10 K K ((F 13 (F 14 0 6) 2) - 5) l1 l2 F B else none) = some (r, F9, B9) := hf
  refine lv_aload_n hx hb (D_42 W_prog_15_method_157_code_0 0 rfl rfl) rfl (lv_at hl 0 rfl) ?_
  refine zget (ci := 14) (C := RX14) (T := TX14) (v := va_rf (zrf ad 13 (F 14 0 6))) (k := 6) hx hb hts inW_14 hown hK hZ (by decide) (by decide) rfl (by decide) k_11_4 rfl (D_180 W_prog_15_method_157_code_0 1 rfl rfl rfl) ?_
  obtain ⟨g1, hf⟩ := gif hf
  refine zunrf g1.1 ?_
  refine zget (ci := 13) (C := RX13) (T := TX13) (v := .int (iI (F 13 (F 14 0 6) 2))) (k := 2) hx hb hts inW_13 hown hK hZ g1.1 g1.2 rfl (by decide) k_9_127 rfl (D_180 W_prog_15_method_157_code_0 4 rfl rfl rfl) ?_
  refine lv_iconst (v := iI 5) hx hb (D_8 W_prog_15_method_157_code_0 7 rfl rfl) rfl ?_
  refine zsub hx hb (D_100 W_prog_15_method_157_code_0 8 rfl rfl) ?_
  refine lv_istore_n (lv' := [(3, .int (iI ((F 13 (F 14 0 6) 2) - 5))), (0, .ref (ad 14 0 0)), (1, .int (iI l1)), (2, .int (iI l2))]) hx hb (D_62 W_prog_15_method_157_code_0 9 rfl rfl) rfl hl (by decide) rfl (fun ls hl => ?_)
  exact b_M_spell_10 X hf hZ hS (lv_sub hl [0, 1, 2, 3] rfl)

abbrev Q_M_downHeads (D : va_G) (ca : Nat → ClassId) (ad : Nat → Int → Nat → Nat) (L : List Nat) (r : Int) (F : zF) (B : zB) (A : Nat → Prop) : Array Value → State → Outcome → State → Prop := va_Qv (S := Unit) (fun _ => True) (fun _ => zPo D ca ad lnM nM L F B A) A
def f_M_downHeads_75 (K : Nat) (s1 : Nat) (F : zF) (B : zB) : zO := zbind (f_M_put_1 K s1 F B) (fun r13 F13 B13 => zbind (f_M_put_0 K 10 F13 B13) (fun r14 F14 B14 => zbind (f_M_put_1 K 41 F14 B14) (fun r15 F15 B15 => if 0 ≤ (F15 14 0 6) ∧ (F15 14 0 6) < 3 then zbind (f_M_digits K (F15 13 (F15 14 0 6) 4) F15 B15) (fun r17 F17 B17 => zbind (f_M_put_0 K 47 F17 B17) (fun r18 F18 B18 => if 0 ≤ (F18 14 0 6) ∧ (F18 14 0 6) < 3 then zbind (f_M_digits K (F18 13 (F18 14 0 6) 5) F18 B18) (fun r20 F20 B20 => zbind (f_M_put_0 K 10 F20 B20) (fun r21 F21 B21 => zbind (f_M_put_1 K 42 F21 B21) (fun r22 F22 B22 => zbind (f_M_digits K (B22 14 0 73 6) F22 B22) (fun r23 F23 B23 => zbind (f_M_put_0 K 10 F23 B23) (fun r24 F24 B24 => some (0, F24, B24)))))) else none)) else none)))
set_option maxHeartbeats 4000000 in
set_option maxRecDepth 100000 in
theorem b_M_downHeads_75 {D : va_G} {ca : Nat → ClassId} {ad : Nat → Int → Nat → Nat} {L : List Nat} {aS vS : Nat → Nat} {A : Nat → Prop} {p : Program} {l : Launch} {e : Env} {s : State} {m : MethodId} {args : Array Value} {below : List Frame} {meth : Method} {c : Code} {K : Nat} {r : Int} {F9 : zF} {B9 : zB} (X : zX D ca L aS vS A p s m args meth c prog_15_method_158_code 1 (Option.none : Option Jvm.ClassFile.FieldType) "StaveHouseModel") {s1 : Nat} {F : zF} {B : zB} {H : Heap} {locs : List Loc} {ls : Array Slot} (hf : f_M_downHeads_75 K s1 F B = some (r, F9, B9)) (hZ : zH D ca ad lnM nM L F B A H) (hS : va_S A s.heap H locs) (hl : lv_has ls 1 [(0, .ref (ad 14 0 0))]) : W p l e ({ frames := 5, cells := 0, slots := 0, locals := 107 } : Room) s m args below meth c H locs 0 0 (MQ below (Q_M_downHeads D ca ad L r F9 B9 A) args s 0 0 A) (F0 m 75 ls [.ref (aS s1), .ref (ad 14 0 0)]) := by
  obtain ⟨hx, hb, hr, hml, hown, hts, hlk, hK, hA, hL, hX⟩ := id X
  replace hf : (zbind (f_M_put_1 K s1 F B) (fun r13 F13 B13 => zbind (f_M_put_0 K 10 F13 B13) (fun r14 F14 B14 => zbind (f_M_put_1 K 41 F14 B14) (fun r15 F15 B15 => if 0 ≤ (F15 14 0 6) ∧ (F15 14 0 6) < 3 then zbind (f_M_digits K (F15 13 (F15 14 0 6) 4) F15 B15) (fun r17 F17 B17 => zbind (f_M_put_0 K 47 F17 B17) (fun r18 F18 B18 => if 0 ≤ (F18 14 0 6) ∧ (F18 14 0 6) < 3 then zbind (f_M_digits K (F18 13 (F18 14 0 6) 5) F18 B18) (fun r20 F20 B20 => zbind (f_M_put_0 K 10 F20 B20) (fun r21 F21 B21 => zbind (f_M_put_1 K 42 F21 B21) (fun r22 F22 B22 => zbind (f_M_digits K (B22 14 0 73 6) F22 B22) (fun r23 F23 B23 => zbind (f_M_put_0 K 10 F23 B23) (fun r24 F24 B24 => some (0, F24, B24)))))) else none)) else none)))) = some (r, F9, B9) := hf
  obtain ⟨r13, F13, B13, hc13, hf⟩ := gbind hf
  refine va_callv (va_runV (As := [.ref (aS s1)]) (rest := []) ⟨hx, hb, hml, hown, hts⟩ (c_M_put_1 (l := l) hc13) (cwV 1 hts (gdV k_12_195 k_12_197 ks_141 k_1_9 k_12_198) rfl rfl rfl (by decide +kernel) ⟨Nat.le_of_ble_eq_true rfl, Nat.le_of_ble_eq_true rfl⟩) (zPV X hZ hS (ci := 14) (by decide) (by decide) (r := (RX14, TX14, 107)) rfl [.ref (aS s1)]) rfl rfl hl.1 rfl (lv_room (Nat.le_of_ble_eq_true rfl)) (D_182 W_prog_15_method_158_code_64 11 rfl rfl rfl) ⟨Nat.le_of_ble_eq_true rfl, Nat.le_of_ble_eq_true rfl⟩) hS (fun q _ h => zAin X hS q h) (zAin X hS) (fun u13 t13 H13 locs13 ht13 hv13 hw13 hB13 hz13 hk13 hS13 => ?_)
  have hZ13 := zBack X ht13 hB13
  refine lv_aload_n hx hb (D_42 W_prog_15_method_158_code_64 14 rfl rfl) rfl (lv_at hl 0 rfl) ?_
  refine lv_bipush (v := iI 10) hx hb (D_16 W_prog_15_method_158_code_64 15 rfl rfl rfl) (by decide) ?_
  obtain ⟨r14, F14, B14, hc14, hf⟩ := gbind hf
  refine va_callv (va_runV (As := [.int (iI 10)]) (rest := []) ⟨hx, hb, hml, hown, hts⟩ (c_M_put_0 (l := l) hc14) (cwV 1 hts (gdV k_12_199 k_12_201 ks_142 k_1_9 k_12_202) rfl rfl rfl (by decide +kernel) ⟨Nat.le_of_ble_eq_true rfl, Nat.le_of_ble_eq_true rfl⟩) (zPV X hZ13 hS13 (ci := 14) (by decide) (by decide) (r := (RX14, TX14, 107)) rfl [.int (iI 10)]) rfl rfl hl.1 rfl (lv_room (Nat.le_of_ble_eq_true rfl)) (D_182 W_prog_15_method_158_code_64 17 rfl rfl rfl) ⟨Nat.le_of_ble_eq_true rfl, Nat.le_of_ble_eq_true rfl⟩) hS13 (fun q _ h => zAin X hS13 q h) (zAin X hS13) (fun u14 t14 H14 locs14 ht14 hv14 hw14 hB14 hz14 hk14 hS14 => ?_)
  have hZ14 := zBack X ht14 hB14
  refine lv_aload_n hx hb (D_42 W_prog_15_method_158_code_64 20 rfl rfl) rfl (lv_at hl 0 rfl) ?_
  refine gldcwS hx hb hown (hX.2.2.2.2.1 41 _ rfl).1 (D_19 W_prog_15_method_158_code_64 21 rfl rfl rfl) ?_
  obtain ⟨r15, F15, B15, hc15, hf⟩ := gbind hf
  refine va_callv (va_runV (As := [.ref (aS 41)]) (rest := []) ⟨hx, hb, hml, hown, hts⟩ (c_M_put_1 (l := l) hc15) (cwV 1 hts (gdV k_12_195 k_12_197 ks_141 k_1_9 k_12_198) rfl rfl rfl (by decide +kernel) ⟨Nat.le_of_ble_eq_true rfl, Nat.le_of_ble_eq_true rfl⟩) (zPV X hZ14 hS14 (ci := 14) (by decide) (by decide) (r := (RX14, TX14, 107)) rfl [.ref (aS 41)]) rfl rfl hl.1 rfl (lv_room (Nat.le_of_ble_eq_true rfl)) (D_182 W_prog_15_method_158_code_64 24 rfl rfl rfl) ⟨Nat.le_of_ble_eq_true rfl, Nat.le_of_ble_eq_true rfl⟩) hS14 (fun q _ h => zAin X hS14 q h) (zAin X hS14) (fun u15 t15 H15 locs15 ht15 hv15 hw15 hB15 hz15 hk15 hS15 => ?_)
  have hZ15 := zBack X ht15 hB15
  refine lv_aload_n hx hb (D_42 W_prog_15_method_158_code_64 27 rfl rfl) rfl (lv_at hl 0 rfl) ?_
  refine lv_aload_n hx hb (D_42 W_prog_15_method_158_code_64 28 rfl rfl) rfl (lv_at hl 0 rfl) ?_
  refine zget (ci := 14) (C := RX14) (T := TX14) (v := va_rf (zrf ad 13 (F15 14 0 6))) (k := 6) hx hb hts inW_14 hown hK hZ15 (by decide) (by decide) rfl (by decide) k_11_4 rfl (D_180 W_prog_15_method_158_code_64 29 rfl rfl rfl) ?_
  obtain ⟨g16, hf⟩ := gif hf
  refine zunrf g16.1 ?_
  refine zget (ci := 13) (C := RX13) (T := TX13) (v := .int (iI (F15 13 (F15 14 0 6) 4))) (k := 4) hx hb hts inW_13 hown hK hZ15 g16.1 g16.2 rfl (by decide) k_9_129 rfl (D_180 W_prog_15_method_158_code_96 0 rfl rfl rfl) ?_
  obtain ⟨r17, F17, B17, hc17, hf⟩ := gbind hf
  refine va_callv (va_runV (As := [.int (iI (F15 13 (F15 14 0 6) 4))]) (rest := []) ⟨hx, hb, hml, hown, hts⟩ (c_M_digits (l := l) hc17) (cwV 1 hts (gdV k_13_112 k_13_114 ks_171 k_1_9 k_13_115) rfl rfl rfl (by decide +kernel) ⟨Nat.le_of_ble_eq_true rfl, Nat.le_of_ble_eq_true rfl⟩) (zPV X hZ15 hS15 (ci := 14) (by decide) (by decide) (r := (RX14, TX14, 107)) rfl [.int (iI (F15 13 (F15 14 0 6) 4))]) rfl rfl hl.1 rfl (lv_room (Nat.le_of_ble_eq_true rfl)) (D_182 W_prog_15_method_158_code_96 3 rfl rfl rfl) ⟨Nat.le_of_ble_eq_true rfl, Nat.le_of_ble_eq_true rfl⟩) hS15 (fun q _ h => zAin X hS15 q h) (zAin X hS15) (fun u17 t17 H17 locs17 ht17 hv17 hw17 hB17 hz17 hk17 hS17 => ?_)
  have hZ17 := zBack X ht17 hB17
  refine lv_aload_n hx hb (D_42 W_prog_15_method_158_code_96 6 rfl rfl) rfl (lv_at hl 0 rfl) ?_
  refine lv_bipush (v := iI 47) hx hb (D_16 W_prog_15_method_158_code_96 7 rfl rfl rfl) (by decide) ?_
  obtain ⟨r18, F18, B18, hc18, hf⟩ := gbind hf
  refine va_callv (va_runV (As := [.int (iI 47)]) (rest := []) ⟨hx, hb, hml, hown, hts⟩ (c_M_put_0 (l := l) hc18) (cwV 1 hts (gdV k_12_199 k_12_201 ks_142 k_1_9 k_12_202) rfl rfl rfl (by decide +kernel) ⟨Nat.le_of_ble_eq_true rfl, Nat.le_of_ble_eq_true rfl⟩) (zPV X hZ17 hS17 (ci := 14) (by decide) (by decide) (r := (RX14, TX14, 107)) rfl [.int (iI 47)]) rfl rfl hl.1 rfl (lv_room (Nat.le_of_ble_eq_true rfl)) (D_182 W_prog_15_method_158_code_96 9 rfl rfl rfl) ⟨Nat.le_of_ble_eq_true rfl, Nat.le_of_ble_eq_true rfl⟩) hS17 (fun q _ h => zAin X hS17 q h) (zAin X hS17) (fun u18 t18 H18 locs18 ht18 hv18 hw18 hB18 hz18 hk18 hS18 => ?_)
  have hZ18 := zBack X ht18 hB18
  refine lv_aload_n hx hb (D_42 W_prog_15_method_158_code_96 12 rfl rfl) rfl (lv_at hl 0 rfl) ?_
  refine lv_aload_n hx hb (D_42 W_prog_15_method_158_code_96 13 rfl rfl) rfl (lv_at hl 0 rfl) ?_
  refine zget (ci := 14) (C := RX14) (T := TX14) (v := va_rf (zrf ad 13 (F18 14 0 6))) (k := 6) hx hb hts inW_14 hown hK hZ18 (by decide) (by decide) rfl (by decide) k_11_4 rfl (D_180 W_prog_15_method_158_code_96 14 rfl rfl rfl) ?_
  obtain ⟨g19, hf⟩ := gif hf
  refine zunrf g19.1 ?_
  refine zget (ci := 13) (C := RX13) (T := TX13) (v := .int (iI (F18 13 (F18 14 0 6) 5))) (k := 5) hx hb hts inW_13 hown hK hZ18 g19.1 g19.2 rfl (by decide) k_9_130 rfl (D_180 W_prog_15_method_158_code_96 17 rfl rfl rfl) ?_
  obtain ⟨r20, F20, B20, hc20, hf⟩ := gbind hf
  refine va_callv (va_runV (As := [.int (iI (F18 13 (F18 14 0 6) 5))]) (rest := []) ⟨hx, hb, hml, hown, hts⟩ (c_M_digits (l := l) hc20) (cwV 1 hts (gdV k_13_112 k_13_114 ks_171 k_1_9 k_13_115) rfl rfl rfl (by decide +kernel) ⟨Nat.le_of_ble_eq_true rfl, Nat.le_of_ble_eq_true rfl⟩) (zPV X hZ18 hS18 (ci := 14) (by decide) (by decide) (r := (RX14, TX14, 107)) rfl [.int (iI (F18 13 (F18 14 0 6) 5))]) rfl rfl hl.1 rfl (lv_room (Nat.le_of_ble_eq_true rfl)) (D_182 W_prog_15_method_158_code_96 20 rfl rfl rfl) ⟨Nat.le_of_ble_eq_true rfl, Nat.le_of_ble_eq_true rfl⟩) hS18 (fun q _ h => zAin X hS18 q h) (zAin X hS18) (fun u20 t20 H20 locs20 ht20 hv20 hw20 hB20 hz20 hk20 hS20 => ?_)
  have hZ20 := zBack X ht20 hB20
  refine lv_aload_n hx hb (D_42 W_prog_15_method_158_code_96 23 rfl rfl) rfl (lv_at hl 0 rfl) ?_
  refine lv_bipush (v := iI 10) hx hb (D_16 W_prog_15_method_158_code_96 24 rfl rfl rfl) (by decide) ?_
  obtain ⟨r21, F21, B21, hc21, hf⟩ := gbind hf
  refine va_callv (va_runV (As := [.int (iI 10)]) (rest := []) ⟨hx, hb, hml, hown, hts⟩ (c_M_put_0 (l := l) hc21) (cwV 1 hts (gdV k_12_199 k_12_201 ks_142 k_1_9 k_12_202) rfl rfl rfl (by decide +kernel) ⟨Nat.le_of_ble_eq_true rfl, Nat.le_of_ble_eq_true rfl⟩) (zPV X hZ20 hS20 (ci := 14) (by decide) (by decide) (r := (RX14, TX14, 107)) rfl [.int (iI 10)]) rfl rfl hl.1 rfl (lv_room (Nat.le_of_ble_eq_true rfl)) (D_182 W_prog_15_method_158_code_96 26 rfl rfl rfl) ⟨Nat.le_of_ble_eq_true rfl, Nat.le_of_ble_eq_true rfl⟩) hS20 (fun q _ h => zAin X hS20 q h) (zAin X hS20) (fun u21 t21 H21 locs21 ht21 hv21 hw21 hB21 hz21 hk21 hS21 => ?_)
  have hZ21 := zBack X ht21 hB21
  refine lv_aload_n hx hb (D_42 W_prog_15_method_158_code_96 29 rfl rfl) rfl (lv_at hl 0 rfl) ?_
  refine gldcwS hx hb hown (hX.2.2.2.2.1 42 _ rfl).1 (D_19 W_prog_15_method_158_code_96 30 rfl rfl rfl) ?_
  obtain ⟨r22, F22, B22, hc22, hf⟩ := gbind hf
  refine va_callv (va_runV (As := [.ref (aS 42)]) (rest := []) ⟨hx, hb, hml, hown, hts⟩ (c_M_put_1 (l := l) hc22) (cwV 1 hts (gdV k_12_195 k_12_197 ks_141 k_1_9 k_12_198) rfl rfl rfl (by decide +kernel) ⟨Nat.le_of_ble_eq_true rfl, Nat.le_of_ble_eq_true rfl⟩) (zPV X hZ21 hS21 (ci := 14) (by decide) (by decide) (r := (RX14, TX14, 107)) rfl [.ref (aS 42)]) rfl rfl hl.1 rfl (lv_room (Nat.le_of_ble_eq_true rfl)) (D_182 W_prog_15_method_158_code_128 1 rfl rfl rfl) ⟨Nat.le_of_ble_eq_true rfl, Nat.le_of_ble_eq_true rfl⟩) hS21 (fun q _ h => zAin X hS21 q h) (zAin X hS21) (fun u22 t22 H22 locs22 ht22 hv22 hw22 hB22 hz22 hk22 hS22 => ?_)
  have hZ22 := zBack X ht22 hB22
  refine lv_aload_n hx hb (D_42 W_prog_15_method_158_code_128 4 rfl rfl) rfl (lv_at hl 0 rfl) ?_
  refine lv_aload_n hx hb (D_42 W_prog_15_method_158_code_128 5 rfl rfl) rfl (lv_at hl 0 rfl) ?_
  refine zget (ci := 14) (C := RX14) (T := TX14) (v := .ref (ad 14 0 (73 + 1))) (k := 73) hx hb hts inW_14 hown hK hZ22 (by decide) (by decide) rfl (by decide) k_11_71 rfl (D_180 W_prog_15_method_158_code_128 6 rfl rfl rfl) ?_
  refine lv_bipush (v := iI 6) hx hb (D_16 W_prog_15_method_158_code_128 9 rfl rfl rfl) (by decide) ?_
  refine zald (ci := 14) (k := 73) hx hb hK rfl hZ22 (by decide) (by decide) rfl (Nat.le_of_ble_eq_true rfl) (by decide) (by decide) (D_46 W_prog_15_method_158_code_128 11 rfl rfl) ?_
  obtain ⟨r23, F23, B23, hc23, hf⟩ := gbind hf
  refine va_callv (va_runV (As := [.int (iI (B22 14 0 73 6))]) (rest := []) ⟨hx, hb, hml, hown, hts⟩ (c_M_digits (l := l) hc23) (cwV 1 hts (gdV k_13_112 k_13_114 ks_171 k_1_9 k_13_115) rfl rfl rfl (by decide +kernel) ⟨Nat.le_of_ble_eq_true rfl, Nat.le_of_ble_eq_true rfl⟩) (zPV X hZ22 hS22 (ci := 14) (by decide) (by decide) (r := (RX14, TX14, 107)) rfl [.int (iI (B22 14 0 73 6))]) rfl rfl hl.1 rfl (lv_room (Nat.le_of_ble_eq_true rfl)) (D_182 W_prog_15_method_158_code_128 12 rfl rfl rfl) ⟨Nat.le_of_ble_eq_true rfl, Nat.le_of_ble_eq_true rfl⟩) hS22 (fun q _ h => zAin X hS22 q h) (zAin X hS22) (fun u23 t23 H23 locs23 ht23 hv23 hw23 hB23 hz23 hk23 hS23 => ?_)
  have hZ23 := zBack X ht23 hB23
  refine lv_aload_n hx hb (D_42 W_prog_15_method_158_code_128 15 rfl rfl) rfl (lv_at hl 0 rfl) ?_
  refine lv_bipush (v := iI 10) hx hb (D_16 W_prog_15_method_158_code_128 16 rfl rfl rfl) (by decide) ?_
  obtain ⟨r24, F24, B24, hc24, hf⟩ := gbind hf
  refine va_callv (va_runV (As := [.int (iI 10)]) (rest := []) ⟨hx, hb, hml, hown, hts⟩ (c_M_put_0 (l := l) hc24) (cwV 1 hts (gdV k_12_199 k_12_201 ks_142 k_1_9 k_12_202) rfl rfl rfl (by decide +kernel) ⟨Nat.le_of_ble_eq_true rfl, Nat.le_of_ble_eq_true rfl⟩) (zPV X hZ23 hS23 (ci := 14) (by decide) (by decide) (r := (RX14, TX14, 107)) rfl [.int (iI 10)]) rfl rfl hl.1 rfl (lv_room (Nat.le_of_ble_eq_true rfl)) (D_182 W_prog_15_method_158_code_128 18 rfl rfl rfl) ⟨Nat.le_of_ble_eq_true rfl, Nat.le_of_ble_eq_true rfl⟩) hS23 (fun q _ h => zAin X hS23 q h) (zAin X hS23) (fun u24 t24 H24 locs24 ht24 hv24 hw24 hB24 hz24 hk24 hS24 => ?_)
  have hZ24 := zBack X ht24 hB24
  cases hf
  exact W.vret hx hb hr (fun t ht hW => ⟨⟨(), rfl, trivial, by rw [ht]; exact hZ24, va_K.moved hW.alike hK⟩, hS24.F ht⟩) hS24.2.2 (D_177 W_prog_15_method_158_code_128 21 rfl rfl) hlk

def f_M_downHeads_52 (K : Nat) (s1 : Int) (F : zF) (B : zB) : zO := zbind (f_M_digits K s1 F B) (fun r9 F9 B9 => if 0 ≤ (F9 14 0 6) ∧ (F9 14 0 6) < 3 then if r32 (F9 13 (F9 14 0 6) 3) then (if (F9 13 (F9 14 0 6) 3) = 0 then f_M_downHeads_75 K 40 F9 B9 else f_M_downHeads_75 K 39 F9 B9) else none else none)
set_option maxHeartbeats 4000000 in
set_option maxRecDepth 100000 in
theorem b_M_downHeads_52 {D : va_G} {ca : Nat → ClassId} {ad : Nat → Int → Nat → Nat} {L : List Nat} {aS vS : Nat → Nat} {A : Nat → Prop} {p : Program} {l : Launch} {e : Env} {s : State} {m : MethodId} {args : Array Value} {below : List Frame} {meth : Method} {c : Code} {K : Nat} {r : Int} {F9 : zF} {B9 : zB} (X : zX D ca L aS vS A p s m args meth c prog_15_method_158_code 1 (Option.none : Option Jvm.ClassFile.FieldType) "StaveHouseModel") {s1 : Int} {F : zF} {B : zB} {H : Heap} {locs : List Loc} {ls : Array Slot} (hf : f_M_downHeads_52 K s1 F B = some (r, F9, B9)) (hZ : zH D ca ad lnM nM L F B A H) (hS : va_S A s.heap H locs) (hl : lv_has ls 1 [(0, .ref (ad 14 0 0))]) : W p l e ({ frames := 5, cells := 0, slots := 0, locals := 107 } : Room) s m args below meth c H locs 0 0 (MQ below (Q_M_downHeads D ca ad L r F9 B9 A) args s 0 0 A) (F0 m 52 ls [.int (iI s1), .ref (ad 14 0 0)]) := by
  obtain ⟨hx, hb, hr, hml, hown, hts, hlk, hK, hA, hL, hX⟩ := id X
  replace hf : (zbind (f_M_digits K s1 F B) (fun r9 F9 B9 => if 0 ≤ (F9 14 0 6) ∧ (F9 14 0 6) < 3 then if r32 (F9 13 (F9 14 0 6) 3) then (if (F9 13 (F9 14 0 6) 3) = 0 then f_M_downHeads_75 K 40 F9 B9 else f_M_downHeads_75 K 39 F9 B9) else none else none)) = some (r, F9, B9) := hf
  obtain ⟨r9, F9, B9, hc9, hf⟩ := gbind hf
  refine va_callv (va_runV (As := [.int (iI s1)]) (rest := []) ⟨hx, hb, hml, hown, hts⟩ (c_M_digits (l := l) hc9) (cwV 1 hts (gdV k_13_112 k_13_114 ks_171 k_1_9 k_13_115) rfl rfl rfl (by decide +kernel) ⟨Nat.le_of_ble_eq_true rfl, Nat.le_of_ble_eq_true rfl⟩) (zPV X hZ hS (ci := 14) (by decide) (by decide) (r := (RX14, TX14, 107)) rfl [.int (iI s1)]) rfl rfl hl.1 rfl (lv_room (Nat.le_of_ble_eq_true rfl)) (D_182 W_prog_15_method_158_code_32 20 rfl rfl rfl) ⟨Nat.le_of_ble_eq_true rfl, Nat.le_of_ble_eq_true rfl⟩) hS (fun q _ h => zAin X hS q h) (zAin X hS) (fun u9 t9 H9 locs9 ht9 hv9 hw9 hB9 hz9 hk9 hS9 => ?_)
  have hZ9 := zBack X ht9 hB9
  refine lv_aload_n hx hb (D_42 W_prog_15_method_158_code_32 23 rfl rfl) rfl (lv_at hl 0 rfl) ?_
  refine lv_aload_n hx hb (D_42 W_prog_15_method_158_code_32 24 rfl rfl) rfl (lv_at hl 0 rfl) ?_
  refine zget (ci := 14) (C := RX14) (T := TX14) (v := va_rf (zrf ad 13 (F9 14 0 6))) (k := 6) hx hb hts inW_14 hown hK hZ9 (by decide) (by decide) rfl (by decide) k_11_4 rfl (D_180 W_prog_15_method_158_code_32 25 rfl rfl rfl) ?_
  obtain ⟨g10, hf⟩ := gif hf
  refine zunrf g10.1 ?_
  refine zget (ci := 13) (C := RX13) (T := TX13) (v := .int (iI (F9 13 (F9 14 0 6) 3))) (k := 3) hx hb hts inW_13 hown hK hZ9 g10.1 g10.2 rfl (by decide) k_9_128 rfl (D_180 W_prog_15_method_158_code_32 28 rfl rfl rfl) ?_
  obtain ⟨g11, hf⟩ := gif hf
  refine z0eq (tgt := 72) hx hb g11 (D_153 W_prog_15_method_158_code_32 31 rfl rfl rfl) (by decide) (fun h12 => ?_) (fun h12 => ?_)
  · replace hf := gpos hf h12
    refine gldcwS hx hb hown (hX.2.2.2.2.1 40 _ rfl).1 (D_19 W_prog_15_method_158_code_64 8 rfl rfl rfl) ?_
    exact b_M_downHeads_75 X hf hZ9 hS9 (lv_sub hl [0] rfl)
  · replace hf := gneg hf h12
    refine gldcwS hx hb hown (hX.2.2.2.2.1 39 _ rfl).1 (D_19 W_prog_15_method_158_code_64 2 rfl rfl rfl) ?_
    refine lv_goto (tgt := 75) hx hb (D_167 W_prog_15_method_158_code_64 5 rfl rfl rfl) (by decide) ?_
    exact b_M_downHeads_75 X hf hZ9 hS9 (lv_sub hl [0] rfl)

def f_M_downHeads_23 (K : Nat)  (F : zF) (B : zB) : zO := if 0 ≤ (F 14 0 6) ∧ (F 14 0 6) < 3 then if r32 (F 13 (F 14 0 6) 2) then (if 0 ≤ (F 13 (F 14 0 6) 2) then f_M_downHeads_52 K (F 13 (F 14 0 6) 2) F B else f_M_downHeads_52 K (-(F 13 (F 14 0 6) 2)) F B) else none else none
set_option maxHeartbeats 4000000 in
set_option maxRecDepth 100000 in
theorem b_M_downHeads_23 {D : va_G} {ca : Nat → ClassId} {ad : Nat → Int → Nat → Nat} {L : List Nat} {aS vS : Nat → Nat} {A : Nat → Prop} {p : Program} {l : Launch} {e : Env} {s : State} {m : MethodId} {args : Array Value} {below : List Frame} {meth : Method} {c : Code} {K : Nat} {r : Int} {F9 : zF} {B9 : zB} (X : zX D ca L aS vS A p s m args meth c prog_15_method_158_code 1 (Option.none : Option Jvm.ClassFile.FieldType) "StaveHouseModel")  {F : zF} {B : zB} {H : Heap} {locs : List Loc} {ls : Array Slot} (hf : f_M_downHeads_23 K  F B = some (r, F9, B9)) (hZ : zH D ca ad lnM nM L F B A H) (hS : va_S A s.heap H locs) (hl : lv_has ls 1 [(0, .ref (ad 14 0 0))]) : W p l e ({ frames := 5, cells := 0, slots := 0, locals := 107 } : Room) s m args below meth c H locs 0 0 (MQ below (Q_M_downHeads D ca ad L r F9 B9 A) args s 0 0 A) (F0 m 23 ls []) := by
  obtain ⟨hx, hb, hr, hml, hown, hts, hlk, hK, hA, hL, hX⟩ := id X
  replace hf : (if 0 ≤ (F 14 0 6) ∧ (F 14 0 6) < 3 then if r32 (F 13 (F 14 0 6) 2) then (if 0 ≤ (F 13 (F 14 0 6) 2) then f_M_downHeads_52 K (F 13 (F 14 0 6) 2) F B else f_M_downHeads_52 K (-(F 13 (F 14 0 6) 2)) F B) else none else none) = some (r, F9, B9) := hf
  refine lv_aload_n hx hb (D_42 W_prog_15_method_158_code_0 23 rfl rfl) rfl (lv_at hl 0 rfl) ?_
  refine lv_aload_n hx hb (D_42 W_prog_15_method_158_code_0 24 rfl rfl) rfl (lv_at hl 0 rfl) ?_
  refine zget (ci := 14) (C := RX14) (T := TX14) (v := va_rf (zrf ad 13 (F 14 0 6))) (k := 6) hx hb hts inW_14 hown hK hZ (by decide) (by decide) rfl (by decide) k_11_4 rfl (D_180 W_prog_15_method_158_code_0 25 rfl rfl rfl) ?_
  obtain ⟨g6, hf⟩ := gif hf
  refine zunrf g6.1 ?_
  refine zget (ci := 13) (C := RX13) (T := TX13) (v := .int (iI (F 13 (F 14 0 6) 2))) (k := 2) hx hb hts inW_13 hown hK hZ g6.1 g6.2 rfl (by decide) k_9_127 rfl (D_180 W_prog_15_method_158_code_0 28 rfl rfl rfl) ?_
  obtain ⟨g7, hf⟩ := gif hf
  refine z0ge (tgt := 45) hx hb g7 (D_156 W_prog_15_method_158_code_0 31 rfl rfl rfl) (by decide) (fun h8 => ?_) (fun h8 => ?_)
  · replace hf := gpos hf h8
    refine lv_aload_n hx hb (D_42 W_prog_15_method_158_code_32 13 rfl rfl) rfl (lv_at hl 0 rfl) ?_
    refine zget (ci := 14) (C := RX14) (T := TX14) (v := va_rf (zrf ad 13 (F 14 0 6))) (k := 6) hx hb hts inW_14 hown hK hZ (by decide) (by decide) rfl (by decide) k_11_4 rfl (D_180 W_prog_15_method_158_code_32 14 rfl rfl rfl) ?_
    refine zunrf g6.1 ?_
    refine zget (ci := 13) (C := RX13) (T := TX13) (v := .int (iI (F 13 (F 14 0 6) 2))) (k := 2) hx hb hts inW_13 hown hK hZ g6.1 g6.2 rfl (by decide) k_9_127 rfl (D_180 W_prog_15_method_158_code_32 17 rfl rfl rfl) ?_
    exact b_M_downHeads_52 X hf hZ hS (lv_sub hl [0] rfl)
  · replace hf := gneg hf h8
    refine lv_aload_n hx hb (D_42 W_prog_15_method_158_code_32 2 rfl rfl) rfl (lv_at hl 0 rfl) ?_
    refine zget (ci := 14) (C := RX14) (T := TX14) (v := va_rf (zrf ad 13 (F 14 0 6))) (k := 6) hx hb hts inW_14 hown hK hZ (by decide) (by decide) rfl (by decide) k_11_4 rfl (D_180 W_prog_15_method_158_code_32 3 rfl rfl rfl) ?_
    refine zunrf g6.1 ?_
    refine zget (ci := 13) (C := RX13) (T := TX13) (v := .int (iI (F 13 (F 14 0 6) 2))) (k := 2) hx hb hts inW_13 hown hK hZ g6.1 g6.2 rfl (by decide) k_9_127 rfl (D_180 W_prog_15_method_158_code_32 6 rfl rfl rfl) ?_
    refine zneg hx hb (D_116 W_prog_15_method_158_code_32 9 rfl rfl) ?_
    refine lv_goto (tgt := 52) hx hb (D_167 W_prog_15_method_158_code_32 10 rfl rfl rfl) (by decide) ?_
    exact b_M_downHeads_52 X hf hZ hS (lv_sub hl [0] rfl)

def f_M_downHeads (K : Nat)  (F : zF) (B : zB) : zO := zbind (f_M_put_1 K 38 F B) (fun r1 F1 B1 => if 0 ≤ (F1 14 0 6) ∧ (F1 14 0 6) < 3 then if r32 (F1 13 (F1 14 0 6) 2) then (if 0 ≤ (F1 13 (F1 14 0 6) 2) then f_M_downHeads_23 K F1 B1 else zbind (f_M_put_0 K 45 F1 B1) (fun r5 F5 B5 => f_M_downHeads_23 K F5 B5)) else none else none)
set_option maxHeartbeats 4000000 in
set_option maxRecDepth 100000 in
theorem c_M_downHeads {l : Launch} {D : va_G} {ca : Nat → ClassId} {ad : Nat → Int → Nat → Nat} {L : List Nat} {aS vS : Nat → Nat} {sz K : Nat}   {F F9 : zF} {B B9 : zB} {r : Int} (hf : f_M_downHeads K  F B = some (r, F9, B9)) : Met l ({ cls := "StaveHouseModel", name := "downHeads", desc := "()V" } : Jvm.MethodName) (Cond.code ({ cls := "StaveHouseModel", name := "downHeads", desc := "()V" } : Jvm.MethodName) prog_15_method_158_code 1 (Option.none : Option Jvm.ClassFile.FieldType) :: wAll) ({ frames := 5, cells := 0, slots := 0, locals := 107 } : Room) (va_Pc [.ref (ad 14 0 0)] (zPre D ca ad lnM nM L aS vS F B sz)) (Q_M_downHeads D ca ad L r F9 B9 (zA L sz)) 0 0 (zA L sz) := by
  refine zMet (Qc := Q_M_downHeads D ca ad L r F9 B9) (lv := [(0, .ref (ad 14 0 0))]) (by decide) (Nat.le_of_ble_eq_true rfl) rfl (fun A p e s m below meth c ls X hZ hS hl => ?_)
  obtain ⟨hx, hb, hr, hml, hown, hts, hlk, hK, hA, hL, hX⟩ := id X
  replace hf : (zbind (f_M_put_1 K 38 F B) (fun r1 F1 B1 => if 0 ≤ (F1 14 0 6) ∧ (F1 14 0 6) < 3 then if r32 (F1 13 (F1 14 0 6) 2) then (if 0 ≤ (F1 13 (F1 14 0 6) 2) then f_M_downHeads_23 K F1 B1 else zbind (f_M_put_0 K 45 F1 B1) (fun r5 F5 B5 => f_M_downHeads_23 K F5 B5)) else none else none)) = some (r, F9, B9) := hf
  refine lv_aload_n hx hb (D_42 W_prog_15_method_158_code_0 0 rfl rfl) rfl (lv_at hl 0 rfl) ?_
  refine gldcwS hx hb hown (hX.2.2.2.2.1 38 _ rfl).1 (D_19 W_prog_15_method_158_code_0 1 rfl rfl rfl) ?_
  obtain ⟨r1, F1, B1, hc1, hf⟩ := gbind hf
  refine va_callv (va_runV (As := [.ref (aS 38)]) (rest := []) ⟨hx, hb, hml, hown, hts⟩ (c_M_put_1 (l := l) hc1) (cwV 1 hts (gdV k_12_195 k_12_197 ks_141 k_1_9 k_12_198) rfl rfl rfl (by decide +kernel) ⟨Nat.le_of_ble_eq_true rfl, Nat.le_of_ble_eq_true rfl⟩) (zPV X hZ hS (ci := 14) (by decide) (by decide) (r := (RX14, TX14, 107)) rfl [.ref (aS 38)]) rfl rfl hl.1 rfl (lv_room (Nat.le_of_ble_eq_true rfl)) (D_182 W_prog_15_method_158_code_0 4 rfl rfl rfl) ⟨Nat.le_of_ble_eq_true rfl, Nat.le_of_ble_eq_true rfl⟩) hS (fun q _ h => zAin X hS q h) (zAin X hS) (fun u1 t1 H1 locs1 ht1 hv1 hw1 hB1 hz1 hk1 hS1 => ?_)
  have hZ1 := zBack X ht1 hB1
  refine lv_aload_n hx hb (D_42 W_prog_15_method_158_code_0 7 rfl rfl) rfl (lv_at hl 0 rfl) ?_
  refine zget (ci := 14) (C := RX14) (T := TX14) (v := va_rf (zrf ad 13 (F1 14 0 6))) (k := 6) hx hb hts inW_14 hown hK hZ1 (by decide) (by decide) rfl (by decide) k_11_4 rfl (D_180 W_prog_15_method_158_code_0 8 rfl rfl rfl) ?_
  obtain ⟨g2, hf⟩ := gif hf
  refine zunrf g2.1 ?_
  refine zget (ci := 13) (C := RX13) (T := TX13) (v := .int (iI (F1 13 (F1 14 0 6) 2))) (k := 2) hx hb hts inW_13 hown hK hZ1 g2.1 g2.2 rfl (by decide) k_9_127 rfl (D_180 W_prog_15_method_158_code_0 11 rfl rfl rfl) ?_
  obtain ⟨g3, hf⟩ := gif hf
  refine z0ge (tgt := 23) hx hb g3 (D_156 W_prog_15_method_158_code_0 14 rfl rfl rfl) (by decide) (fun h4 => ?_) (fun h4 => ?_)
  · replace hf := gpos hf h4
    exact b_M_downHeads_23 X hf hZ1 hS1 (lv_sub hl [0] rfl)
  · replace hf := gneg hf h4
    refine lv_aload_n hx hb (D_42 W_prog_15_method_158_code_0 17 rfl rfl) rfl (lv_at hl 0 rfl) ?_
    refine lv_bipush (v := iI 45) hx hb (D_16 W_prog_15_method_158_code_0 18 rfl rfl rfl) (by decide) ?_
    obtain ⟨r5, F5, B5, hc5, hf⟩ := gbind hf
    refine va_callv (va_runV (As := [.int (iI 45)]) (rest := []) ⟨hx, hb, hml, hown, hts⟩ (c_M_put_0 (l := l) hc5) (cwV 1 hts (gdV k_12_199 k_12_201 ks_142 k_1_9 k_12_202) rfl rfl rfl (by decide +kernel) ⟨Nat.le_of_ble_eq_true rfl, Nat.le_of_ble_eq_true rfl⟩) (zPV X hZ1 hS1 (ci := 14) (by decide) (by decide) (r := (RX14, TX14, 107)) rfl [.int (iI 45)]) rfl rfl hl.1 rfl (lv_room (Nat.le_of_ble_eq_true rfl)) (D_182 W_prog_15_method_158_code_0 20 rfl rfl rfl) ⟨Nat.le_of_ble_eq_true rfl, Nat.le_of_ble_eq_true rfl⟩) hS1 (fun q _ h => zAin X hS1 q h) (zAin X hS1) (fun u5 t5 H5 locs5 ht5 hv5 hw5 hB5 hz5 hk5 hS5 => ?_)
    have hZ5 := zBack X ht5 hB5
    exact b_M_downHeads_23 X hf hZ5 hS5 (lv_sub hl [0] rfl)

abbrev Q_M_places (D : va_G) (ca : Nat → ClassId) (ad : Nat → Int → Nat → Nat) (L : List Nat) (r : Int) (F : zF) (B : zB) (A : Nat → Prop) : Array Value → State → Outcome → State → Prop := va_Qv (S := Unit) (fun _ => True) (fun _ => zPo D ca ad lnM nM L F B A) A
def f_M_places_8 (K : Nat) : Nat → Int → Int → Int → zF → zB → zO
  | 0, _, _, _, _, _ => none
  | n + 1, l3, l1, l2, F, B => if 0 ≤ l1 ∧ l1 < 3 then if 0 ≤ l2 ∧ l2 < 4 then if r32 l3 then if r32 (B 13 l1 12 l2) then (if (B 13 l1 12 l2) ≤ l3 then some (0, F, B) else if 0 ≤ ((1000 * l2) + l3) ∧ ((1000 * l2) + l3) < 4000 then zbind (f_M_plus K (F 14 0 0) (F 14 0 1) ((zup4 (zup4 B 13 l1 14 ((1000 * l2) + l3) (F 14 0 0)) 13 l1 15 ((1000 * l2) + l3) (F 14 0 1)) 13 l1 16 ((1000 * l2) + l3)) ((zup4 (zup4 B 13 l1 14 ((1000 * l2) + l3) (F 14 0 0)) 13 l1 15 ((1000 * l2) + l3) (F 14 0 1)) 13 l1 17 ((1000 * l2) + l3)) F (zup4 (zup4 B 13 l1 14 ((1000 * l2) + l3) (F 14 0 0)) 13 l1 15 ((1000 * l2) + l3) (F 14 0 1))) (fun r10 F10 B10 => f_M_places_8 K n (l3 + 1) l1 l2 F10 B10) else none) else none else none else none else none
set_option maxHeartbeats 4000000 in
set_option maxRecDepth 100000 in
theorem b_M_places_8 {D : va_G} {ca : Nat → ClassId} {ad : Nat → Int → Nat → Nat} {L : List Nat} {aS vS : Nat → Nat} {A : Nat → Prop} {p : Program} {l : Launch} {e : Env} {s : State} {m : MethodId} {args : Array Value} {below : List Frame} {meth : Method} {c : Code} {K : Nat} {r : Int} {F9 : zF} {B9 : zB} (X : zX D ca L aS vS A p s m args meth c prog_15_method_76_code 5 (Option.none : Option Jvm.ClassFile.FieldType) "StaveHouseModel") : ∀ {n : Nat} {l3 : Int} {l1 : Int} {l2 : Int} {F : zF} {B : zB} {H : Heap} {locs : List Loc} {ls : Array Slot}, f_M_places_8 K n l3 l1 l2 F B = some (r, F9, B9) → zH D ca ad lnM nM L F B A H → va_S A s.heap H locs → lv_has ls 5 [(3, .int (iI l3)), (0, .ref (ad 14 0 0)), (1, .ref (ad 13 l1 0)), (2, .int (iI l2))] → W p l e ({ frames := 3, cells := 0, slots := 0, locals := 85 } : Room) s m args below meth c H locs 0 0 (MQ below (Q_M_places D ca ad L r F9 B9 A) args s 0 0 A) (F0 m 8 ls []) := by
  obtain ⟨hx, hb, hr, hml, hown, hts, hlk, hK, hA, hL, hX⟩ := id X
  intro n
  induction n with
  | zero =>
    intros
    rename_i hf _ _ _
    cases hf
  | succ n ih =>
    intro l3 l1 l2 F B H locs ls hf hZ hS hl
    replace hf : (if 0 ≤ l1 ∧ l1 < 3 then if 0 ≤ l2 ∧ l2 < 4 then if r32 l3 then if r32 (B 13 l1 12 l2) then (if (B 13 l1 12 l2) ≤ l3 then some (0, F, B) else if 0 ≤ ((1000 * l2) + l3) ∧ ((1000 * l2) + l3) < 4000 then zbind (f_M_plus K (F 14 0 0) (F 14 0 1) ((zup4 (zup4 B 13 l1 14 ((1000 * l2) + l3) (F 14 0 0)) 13 l1 15 ((1000 * l2) + l3) (F 14 0 1)) 13 l1 16 ((1000 * l2) + l3)) ((zup4 (zup4 B 13 l1 14 ((1000 * l2) + l3) (F 14 0 0)) 13 l1 15 ((1000 * l2) + l3) (F 14 0 1)) 13 l1 17 ((1000 * l2) + l3)) F (zup4 (zup4 B 13 l1 14 ((1000 * l2) + l3) (F 14 0 0)) 13 l1 15 ((1000 * l2) + l3) (F 14 0 1))) (fun r10 F10 B10 => f_M_places_8 K n (l3 + 1) l1 l2 F10 B10) else none) else none else none else none else none) = some (r, F9, B9) := hf
    refine lv_iload_n hx hb (D_29 W_prog_15_method_76_code_0 8 rfl rfl) rfl (lv_at hl 0 rfl) ?_
    refine lv_aload_n hx hb (D_43 W_prog_15_method_76_code_0 9 rfl rfl) rfl (lv_at hl 2 rfl) ?_
    obtain ⟨g2, hf⟩ := gif hf
    refine zget (ci := 13) (C := RX13) (T := TX13) (v := .ref (ad 13 l1 (12 + 1))) (k := 12) hx hb hts inW_13 hown hK hZ g2.1 g2.2 rfl (by decide) k_9_142 rfl (D_180 W_prog_15_method_76_code_0 10 rfl rfl rfl) ?_
    refine lv_iload_n hx hb (D_28 W_prog_15_method_76_code_0 13 rfl rfl) rfl (lv_at hl 3 rfl) ?_
    obtain ⟨g3, hf⟩ := gif hf
    refine zald (ci := 13) (k := 12) hx hb hK rfl hZ g2.1 g2.2 rfl (Nat.le_of_ble_eq_true rfl) g3.1 g3.2 (D_46 W_prog_15_method_76_code_0 14 rfl rfl) ?_
    obtain ⟨g4, hf⟩ := gif hf
    obtain ⟨g5, hf⟩ := gif hf
    refine zge (tgt := 81) hx hb g4 g5 (D_162 W_prog_15_method_76_code_0 15 rfl rfl rfl) (by decide) (fun h6 => ?_) (fun h6 => ?_)
    · replace hf := gpos hf h6
      cases hf
      exact W.vret hx hb hr (fun t ht hW => ⟨⟨(), rfl, trivial, by rw [ht]; exact hZ, va_K.moved hW.alike hK⟩, hS.F ht⟩) hS.2.2 (D_177 W_prog_15_method_76_code_64 17 rfl rfl) hlk
    · replace hf := gneg hf h6
      refine lv_sipush (v := iI 1000) hx hb (D_17 W_prog_15_method_76_code_0 18 rfl rfl rfl) (by decide) ?_
      refine lv_iload_n hx hb (D_28 W_prog_15_method_76_code_0 21 rfl rfl) rfl (lv_at hl 3 rfl) ?_
      refine zmul hx hb (D_104 W_prog_15_method_76_code_0 22 rfl rfl) ?_
      refine lv_iload_n hx hb (D_29 W_prog_15_method_76_code_0 23 rfl rfl) rfl (lv_at hl 0 rfl) ?_
      refine zadd hx hb (D_96 W_prog_15_method_76_code_0 24 rfl rfl) ?_
      refine lv_istore (lv' := [(4, .int (iI ((1000 * l2) + l3))), (3, .int (iI l3)), (0, .ref (ad 14 0 0)), (1, .ref (ad 13 l1 0)), (2, .int (iI l2))]) hx hb (D_54 W_prog_15_method_76_code_0 25 rfl rfl) hl (by decide) rfl (fun ls hl => ?_)
      refine lv_aload_n hx hb (D_43 W_prog_15_method_76_code_0 27 rfl rfl) rfl (lv_at hl 3 rfl) ?_
      refine zget (ci := 13) (C := RX13) (T := TX13) (v := .ref (ad 13 l1 (14 + 1))) (k := 14) hx hb hts inW_13 hown hK hZ g2.1 g2.2 rfl (by decide) k_9_146 rfl (D_180 W_prog_15_method_76_code_0 28 rfl rfl rfl) ?_
      refine lv_iload hx hb (D_21 W_prog_15_method_76_code_0 31 rfl rfl) (lv_at hl 0 rfl) ?_
      refine lv_aload_n hx hb (D_42 W_prog_15_method_76_code_32 1 rfl rfl) rfl (lv_at hl 2 rfl) ?_
      refine zget (ci := 14) (C := RX14) (T := TX14) (v := .long (lI (F 14 0 0))) (k := 0) hx hb hts inW_14 hown hK hZ (by decide) (by decide) rfl (by decide) k_10_238 rfl (D_180 W_prog_15_method_76_code_32 2 rfl rfl rfl) ?_
      obtain ⟨g7, hf⟩ := gif hf
      refine zlast (ci := 13) (k := 14) hx hb hK rfl hZ hS g2.1 g2.2 rfl (Nat.le_of_ble_eq_true rfl) g7.1 g7.2 (D_80 W_prog_15_method_76_code_32 5 rfl rfl) (fun H8 locs8 hZ8 hS8 => ?_)
      refine lv_aload_n hx hb (D_43 W_prog_15_method_76_code_32 6 rfl rfl) rfl (lv_at hl 3 rfl) ?_
      refine zget (ci := 13) (C := RX13) (T := TX13) (v := .ref (ad 13 l1 (15 + 1))) (k := 15) hx hb hts inW_13 hown hK hZ8 g2.1 g2.2 rfl (by decide) k_9_148 rfl (D_180 W_prog_15_method_76_code_32 7 rfl rfl rfl) ?_
      refine lv_iload hx hb (D_21 W_prog_15_method_76_code_32 10 rfl rfl) (lv_at hl 0 rfl) ?_
      refine lv_aload_n hx hb (D_42 W_prog_15_method_76_code_32 12 rfl rfl) rfl (lv_at hl 2 rfl) ?_
      refine zget (ci := 14) (C := RX14) (T := TX14) (v := .long (lI (F 14 0 1))) (k := 1) hx hb hts inW_14 hown hK hZ8 (by decide) (by decide) rfl (by decide) k_10_239 rfl (D_180 W_prog_15_method_76_code_32 13 rfl rfl rfl) ?_
      refine zlast (ci := 13) (k := 15) hx hb hK rfl hZ8 hS8 g2.1 g2.2 rfl (Nat.le_of_ble_eq_true rfl) g7.1 g7.2 (D_80 W_prog_15_method_76_code_32 16 rfl rfl) (fun H9 locs9 hZ9 hS9 => ?_)
      refine lv_aload_n hx hb (D_42 W_prog_15_method_76_code_32 17 rfl rfl) rfl (lv_at hl 2 rfl) ?_
      refine lv_aload_n hx hb (D_42 W_prog_15_method_76_code_32 18 rfl rfl) rfl (lv_at hl 2 rfl) ?_
      refine zget (ci := 14) (C := RX14) (T := TX14) (v := .long (lI (F 14 0 0))) (k := 0) hx hb hts inW_14 hown hK hZ9 (by decide) (by decide) rfl (by decide) k_10_238 rfl (D_180 W_prog_15_method_76_code_32 19 rfl rfl rfl) ?_
      refine lv_aload_n hx hb (D_42 W_prog_15_method_76_code_32 22 rfl rfl) rfl (lv_at hl 2 rfl) ?_
      refine zget (ci := 14) (C := RX14) (T := TX14) (v := .long (lI (F 14 0 1))) (k := 1) hx hb hts inW_14 hown hK hZ9 (by decide) (by decide) rfl (by decide) k_10_239 rfl (D_180 W_prog_15_method_76_code_32 23 rfl rfl rfl) ?_
      refine lv_aload_n hx hb (D_43 W_prog_15_method_76_code_32 26 rfl rfl) rfl (lv_at hl 3 rfl) ?_
      refine zget (ci := 13) (C := RX13) (T := TX13) (v := .ref (ad 13 l1 (16 + 1))) (k := 16) hx hb hts inW_13 hown hK hZ9 g2.1 g2.2 rfl (by decide) k_9_150 rfl (D_180 W_prog_15_method_76_code_32 27 rfl rfl rfl) ?_
      refine lv_iload hx hb (D_21 W_prog_15_method_76_code_32 30 rfl rfl) (lv_at hl 0 rfl) ?_
      refine zlald (ci := 13) (k := 16) hx hb hK rfl hZ9 g2.1 g2.2 rfl (Nat.le_of_ble_eq_true rfl) g7.1 g7.2 (D_47 W_prog_15_method_76_code_64 0 rfl rfl) ?_
      refine lv_aload_n hx hb (D_43 W_prog_15_method_76_code_64 1 rfl rfl) rfl (lv_at hl 3 rfl) ?_
      refine zget (ci := 13) (C := RX13) (T := TX13) (v := .ref (ad 13 l1 (17 + 1))) (k := 17) hx hb hts inW_13 hown hK hZ9 g2.1 g2.2 rfl (by decide) k_9_152 rfl (D_180 W_prog_15_method_76_code_64 2 rfl rfl rfl) ?_
      refine lv_iload hx hb (D_21 W_prog_15_method_76_code_64 5 rfl rfl) (lv_at hl 0 rfl) ?_
      refine zlald (ci := 13) (k := 17) hx hb hK rfl hZ9 g2.1 g2.2 rfl (Nat.le_of_ble_eq_true rfl) g7.1 g7.2 (D_47 W_prog_15_method_76_code_64 7 rfl rfl) ?_
      obtain ⟨r10, F10, B10, hc10, hf⟩ := gbind hf
      refine va_callv (va_runV (As := [.long (lI (F 14 0 0)), .long (lI (F 14 0 1)), .long (lI ((zup4 (zup4 B 13 l1 14 ((1000 * l2) + l3) (F 14 0 0)) 13 l1 15 ((1000 * l2) + l3) (F 14 0 1)) 13 l1 16 ((1000 * l2) + l3))), .long (lI ((zup4 (zup4 B 13 l1 14 ((1000 * l2) + l3) (F 14 0 0)) 13 l1 15 ((1000 * l2) + l3) (F 14 0 1)) 13 l1 17 ((1000 * l2) + l3)))]) (rest := []) ⟨hx, hb, hml, hown, hts⟩ (c_M_plus (l := l) hc10) (cwV 4 hts (gdV k_12_147 k_12_149 ks_135 k_1_9 k_12_150) rfl rfl rfl (by decide +kernel) ⟨Nat.le_of_ble_eq_true rfl, Nat.le_of_ble_eq_true rfl⟩) (zPV X hZ9 hS9 (ci := 14) (by decide) (by decide) (r := (RX14, TX14, 107)) rfl [.long (lI (F 14 0 0)), .long (lI (F 14 0 1)), .long (lI ((zup4 (zup4 B 13 l1 14 ((1000 * l2) + l3) (F 14 0 0)) 13 l1 15 ((1000 * l2) + l3) (F 14 0 1)) 13 l1 16 ((1000 * l2) + l3))), .long (lI ((zup4 (zup4 B 13 l1 14 ((1000 * l2) + l3) (F 14 0 0)) 13 l1 15 ((1000 * l2) + l3) (F 14 0 1)) 13 l1 17 ((1000 * l2) + l3)))]) rfl rfl hl.1 rfl (lv_room (Nat.le_of_ble_eq_true rfl)) (D_182 W_prog_15_method_76_code_64 8 rfl rfl rfl) ⟨Nat.le_of_ble_eq_true rfl, Nat.le_of_ble_eq_true rfl⟩) hS9 (fun q _ h => zAin X hS9 q h) (zAin X hS9) (fun u10 t10 H10 locs10 ht10 hv10 hw10 hB10 hz10 hk10 hS10 => ?_)
      have hZ10 := zBack X ht10 hB10
      refine lv_iinc (v := iI (l3 + 1)) (lv' := [(3, .int (iI (l3 + 1))), (4, .int (iI ((1000 * l2) + l3))), (0, .ref (ad 14 0 0)), (1, .ref (ad 13 l1 0)), (2, .int (iI l2))]) hx hb d_15_76_75 hl (k := 1) rfl (iI_add _ 1) (by decide) rfl (fun ls hl => ?_)
      refine lv_goto (tgt := 8) hx hb (D_167 W_prog_15_method_76_code_64 14 rfl rfl rfl) (by decide) ?_
      exact ih hf hZ10 hS10 (lv_sub hl [0, 2, 3, 4] rfl)

def f_M_places (K : Nat) (l1 : Int) (l2 : Int) (F : zF) (B : zB) : zO := zbind (f_M_is K 0 1 F B) (fun r1 F1 B1 => f_M_places_8 K K 0 l1 l2 F1 B1)
set_option maxHeartbeats 4000000 in
set_option maxRecDepth 100000 in
theorem c_M_places {l : Launch} {D : va_G} {ca : Nat → ClassId} {ad : Nat → Int → Nat → Nat} {L : List Nat} {aS vS : Nat → Nat} {sz K : Nat}  {l1 : Int} {l2 : Int} {F F9 : zF} {B B9 : zB} {r : Int} (hf : f_M_places K l1 l2 F B = some (r, F9, B9)) : Met l ({ cls := "StaveHouseModel", name := "places", desc := "(LStaveHouseModel$Piece;I)V" } : Jvm.MethodName) (Cond.code ({ cls := "StaveHouseModel", name := "places", desc := "(LStaveHouseModel$Piece;I)V" } : Jvm.MethodName) prog_15_method_76_code 5 (Option.none : Option Jvm.ClassFile.FieldType) :: wAll) ({ frames := 3, cells := 0, slots := 0, locals := 85 } : Room) (va_Pc [.ref (ad 14 0 0), .ref (ad 13 l1 0), .int (iI l2)] (zPre D ca ad lnM nM L aS vS F B sz)) (Q_M_places D ca ad L r F9 B9 (zA L sz)) 0 0 (zA L sz) := by
  refine zMet (Qc := Q_M_places D ca ad L r F9 B9) (lv := [(0, .ref (ad 14 0 0)), (1, .ref (ad 13 l1 0)), (2, .int (iI l2))]) (by decide) (Nat.le_of_ble_eq_true rfl) rfl (fun A p e s m below meth c ls X hZ hS hl => ?_)
  obtain ⟨hx, hb, hr, hml, hown, hts, hlk, hK, hA, hL, hX⟩ := id X
  replace hf : (zbind (f_M_is K 0 1 F B) (fun r1 F1 B1 => f_M_places_8 K K 0 l1 l2 F1 B1)) = some (r, F9, B9) := hf
  refine lv_aload_n hx hb (D_42 W_prog_15_method_76_code_0 0 rfl rfl) rfl (lv_at hl 0 rfl) ?_
  refine lv_lconst (v := lI 0) hx hb (D_9 W_prog_15_method_76_code_0 1 rfl rfl) (by decide) ?_
  refine lv_lconst (v := lI 1) hx hb (D_10 W_prog_15_method_76_code_0 2 rfl rfl) (by decide) ?_
  obtain ⟨r1, F1, B1, hc1, hf⟩ := gbind hf
  refine va_callv (va_runV (As := [.long (lI 0), .long (lI 1)]) (rest := []) ⟨hx, hb, hml, hown, hts⟩ (c_M_is (l := l) hc1) (cwV 2 hts (gdV k_12_154 k_12_156 ks_136 k_1_9 k_12_157) rfl rfl rfl (by decide +kernel) ⟨Nat.le_of_ble_eq_true rfl, Nat.le_of_ble_eq_true rfl⟩) (zPV X hZ hS (ci := 14) (by decide) (by decide) (r := (RX14, TX14, 107)) rfl [.long (lI 0), .long (lI 1)]) rfl rfl hl.1 rfl (lv_room (Nat.le_of_ble_eq_true rfl)) (D_182 W_prog_15_method_76_code_0 3 rfl rfl rfl) ⟨Nat.le_of_ble_eq_true rfl, Nat.le_of_ble_eq_true rfl⟩) hS (fun q _ h => zAin X hS q h) (zAin X hS) (fun u1 t1 H1 locs1 ht1 hv1 hw1 hB1 hz1 hk1 hS1 => ?_)
  have hZ1 := zBack X ht1 hB1
  refine lv_iconst (v := iI 0) hx hb (D_3 W_prog_15_method_76_code_0 6 rfl rfl) rfl ?_
  refine lv_istore_n (lv' := [(3, .int (iI 0)), (0, .ref (ad 14 0 0)), (1, .ref (ad 13 l1 0)), (2, .int (iI l2))]) hx hb (D_62 W_prog_15_method_76_code_0 7 rfl rfl) rfl hl (by decide) rfl (fun ls hl => ?_)
  exact b_M_places_8 X hf hZ1 hS1 (lv_sub hl [0, 1, 2, 3] rfl)

abbrev Q_M_beat (D : va_G) (ca : Nat → ClassId) (ad : Nat → Int → Nat → Nat) (L : List Nat) (r : Int) (F : zF) (B : zB) (A : Nat → Prop) : Array Value → State → Outcome → State → Prop := va_Qi (S := Unit) (fun p _ => p = iI r) (fun _ => zPo D ca ad lnM nM L F B A) A
def f_M_beat_32 (K : Nat) (s0 : Int) (F : zF) (B : zB) : zO := some (s0, F, B)
set_option maxHeartbeats 4000000 in
set_option maxRecDepth 100000 in
theorem b_M_beat_32 {D : va_G} {ca : Nat → ClassId} {ad : Nat → Int → Nat → Nat} {L : List Nat} {aS vS : Nat → Nat} {A : Nat → Prop} {p : Program} {l : Launch} {e : Env} {s : State} {m : MethodId} {args : Array Value} {below : List Frame} {meth : Method} {c : Code} {K : Nat} {r : Int} {F9 : zF} {B9 : zB} (X : zX D ca L aS vS A p s m args meth c prog_15_method_78_code 1 (Option.some Jvm.ClassFile.FieldType.int) "StaveHouseModel") {s0 : Int} {F : zF} {B : zB} {H : Heap} {locs : List Loc} {ls : Array Slot} (hf : f_M_beat_32 K s0 F B = some (r, F9, B9)) (hZ : zH D ca ad lnM nM L F B A H) (hS : va_S A s.heap H locs) (hl : lv_has ls 1 []) : W p l e ({ frames := 1, cells := 0, slots := 0, locals := 20 } : Room) s m args below meth c H locs 0 0 (MQ below (Q_M_beat D ca ad L r F9 B9 A) args s 0 0 A) (F0 m 32 ls [.int (iI s0)]) := by
  obtain ⟨hx, hb, hr, hml, hown, hts, hlk, hK, hA, hL, hX⟩ := id X
  replace hf : (some (s0, F, B)) = some (r, F9, B9) := hf
  cases hf
  exact W.iret hx hb hr (fun t ht hW => ⟨⟨_, (), rfl, rfl, by rw [ht]; exact hZ, va_K.moved hW.alike hK⟩, hS.F ht⟩) hS.2.2 (D_172 W_prog_15_method_78_code_32 0 rfl rfl) hlk

def f_M_beat_27 (K : Nat)  (F : zF) (B : zB) : zO := f_M_beat_32 K 1 F B
set_option maxHeartbeats 4000000 in
set_option maxRecDepth 100000 in
theorem b_M_beat_27 {D : va_G} {ca : Nat → ClassId} {ad : Nat → Int → Nat → Nat} {L : List Nat} {aS vS : Nat → Nat} {A : Nat → Prop} {p : Program} {l : Launch} {e : Env} {s : State} {m : MethodId} {args : Array Value} {below : List Frame} {meth : Method} {c : Code} {K : Nat} {r : Int} {F9 : zF} {B9 : zB} (X : zX D ca L aS vS A p s m args meth c prog_15_method_78_code 1 (Option.some Jvm.ClassFile.FieldType.int) "StaveHouseModel")  {F : zF} {B : zB} {H : Heap} {locs : List Loc} {ls : Array Slot} (hf : f_M_beat_27 K  F B = some (r, F9, B9)) (hZ : zH D ca ad lnM nM L F B A H) (hS : va_S A s.heap H locs) (hl : lv_has ls 1 []) : W p l e ({ frames := 1, cells := 0, slots := 0, locals := 20 } : Room) s m args below meth c H locs 0 0 (MQ below (Q_M_beat D ca ad L r F9 B9 A) args s 0 0 A) (F0 m 27 ls []) := by
  obtain ⟨hx, hb, hr, hml, hown, hts, hlk, hK, hA, hL, hX⟩ := id X
  replace hf : (f_M_beat_32 K 1 F B) = some (r, F9, B9) := hf
  refine lv_iconst (v := iI 1) hx hb (D_4 W_prog_15_method_78_code_0 27 rfl rfl) rfl ?_
  refine lv_goto (tgt := 32) hx hb (D_167 W_prog_15_method_78_code_0 28 rfl rfl rfl) (by decide) ?_
  exact b_M_beat_32 X hf hZ hS (lv_sub hl [] rfl)

def f_M_beat (K : Nat) (l0 : Int) (F : zF) (B : zB) : zO := zbind (f_M_isCompound K l0 F B) (fun r1 F1 B1 => if r32 r1 then (if r1 = 0 then if 0 ≤ l0 ∧ l0 < 3 then if r32 (F1 13 l0 5) then (if (F1 13 l0 5) = 2 then f_M_beat_27 K F1 B1 else (if (F1 13 l0 5) = 4 then f_M_beat_27 K F1 B1 else f_M_beat_32 K 2 F1 B1)) else none else none else f_M_beat_32 K 3 F1 B1) else none)
set_option maxHeartbeats 4000000 in
set_option maxRecDepth 100000 in
theorem c_M_beat {l : Launch} {D : va_G} {ca : Nat → ClassId} {ad : Nat → Int → Nat → Nat} {L : List Nat} {aS vS : Nat → Nat} {sz K : Nat}  {l0 : Int} {F F9 : zF} {B B9 : zB} {r : Int} (hf : f_M_beat K l0 F B = some (r, F9, B9)) : Met l ({ cls := "StaveHouseModel", name := "beat", desc := "(LStaveHouseModel$Piece;)I" } : Jvm.MethodName) (Cond.code ({ cls := "StaveHouseModel", name := "beat", desc := "(LStaveHouseModel$Piece;)I" } : Jvm.MethodName) prog_15_method_78_code 1 (Option.some Jvm.ClassFile.FieldType.int) :: wAll) ({ frames := 1, cells := 0, slots := 0, locals := 20 } : Room) (va_Pc [.ref (ad 13 l0 0)] (zPre D ca ad lnM nM L aS vS F B sz)) (Q_M_beat D ca ad L r F9 B9 (zA L sz)) 0 0 (zA L sz) := by
  refine zMet (Qc := Q_M_beat D ca ad L r F9 B9) (lv := [(0, .ref (ad 13 l0 0))]) (by decide) (Nat.le_of_ble_eq_true rfl) rfl (fun A p e s m below meth c ls X hZ hS hl => ?_)
  obtain ⟨hx, hb, hr, hml, hown, hts, hlk, hK, hA, hL, hX⟩ := id X
  replace hf : (zbind (f_M_isCompound K l0 F B) (fun r1 F1 B1 => if r32 r1 then (if r1 = 0 then if 0 ≤ l0 ∧ l0 < 3 then if r32 (F1 13 l0 5) then (if (F1 13 l0 5) = 2 then f_M_beat_27 K F1 B1 else (if (F1 13 l0 5) = 4 then f_M_beat_27 K F1 B1 else f_M_beat_32 K 2 F1 B1)) else none else none else f_M_beat_32 K 3 F1 B1) else none)) = some (r, F9, B9) := hf
  refine lv_aload_n hx hb (D_42 W_prog_15_method_78_code_0 0 rfl rfl) rfl (lv_at hl 0 rfl) ?_
  obtain ⟨r1, F1, B1, hc1, hf⟩ := gbind hf
  refine va_calli (va_runS (As := [.ref (ad 13 l0 0)]) (rest := []) ⟨hx, hb, hml, hown, hts⟩ (c_M_isCompound (l := l) hc1) (va_cwS 1 hts (gdS k_13_182 k_13_183 k_1_9 k_13_184) rfl rfl rfl (by decide +kernel) ⟨Nat.le_of_ble_eq_true rfl, Nat.le_of_ble_eq_true rfl⟩) (zPS X hZ hS [.ref (ad 13 l0 0)]) rfl rfl hl.1 rfl (lv_room (Nat.le_of_ble_eq_true rfl)) (D_184 W_prog_15_method_78_code_0 1 rfl rfl rfl) ⟨Nat.le_of_ble_eq_true rfl, Nat.le_of_ble_eq_true rfl⟩) hS (fun q _ h => zAin X hS q h) (zAin X hS) (fun p1 u1 t1 H1 locs1 ht1 hv1 hw1 hB1 hz1 hk1 hS1 => ?_)
  have hZ1 := zBack X ht1 hB1
  subst hw1
  obtain ⟨g2, hf⟩ := gif hf
  refine z0eq (tgt := 11) hx hb g2 (D_153 W_prog_15_method_78_code_0 4 rfl rfl rfl) (by decide) (fun h3 => ?_) (fun h3 => ?_)
  · replace hf := gpos hf h3
    refine lv_aload_n hx hb (D_42 W_prog_15_method_78_code_0 11 rfl rfl) rfl (lv_at hl 0 rfl) ?_
    obtain ⟨g4, hf⟩ := gif hf
    refine zget (ci := 13) (C := RX13) (T := TX13) (v := .int (iI (F1 13 l0 5))) (k := 5) hx hb hts inW_13 hown hK hZ1 g4.1 g4.2 rfl (by decide) k_9_130 rfl (D_180 W_prog_15_method_78_code_0 12 rfl rfl rfl) ?_
    refine lv_iconst (v := iI 2) hx hb (D_5 W_prog_15_method_78_code_0 15 rfl rfl) rfl ?_
    obtain ⟨g5, hf⟩ := gif hf
    refine zeq (tgt := 27) hx hb g5 (by decide) (D_159 W_prog_15_method_78_code_0 16 rfl rfl rfl) (by decide) (fun h6 => ?_) (fun h6 => ?_)
    · replace hf := gpos hf h6
      exact b_M_beat_27 X hf hZ1 hS1 (lv_sub hl [] rfl)
    · replace hf := gneg hf h6
      refine lv_aload_n hx hb (D_42 W_prog_15_method_78_code_0 19 rfl rfl) rfl (lv_at hl 0 rfl) ?_
      refine zget (ci := 13) (C := RX13) (T := TX13) (v := .int (iI (F1 13 l0 5))) (k := 5) hx hb hts inW_13 hown hK hZ1 g4.1 g4.2 rfl (by decide) k_9_130 rfl (D_180 W_prog_15_method_78_code_0 20 rfl rfl rfl) ?_
      refine lv_iconst (v := iI 4) hx hb (D_7 W_prog_15_method_78_code_0 23 rfl rfl) rfl ?_
      refine zne (tgt := 31) hx hb g5 (by decide) (D_160 W_prog_15_method_78_code_0 24 rfl rfl rfl) (by decide) (fun h7 => ?_) (fun h7 => ?_)
      · replace hf := gneg hf h7
        refine lv_iconst (v := iI 2) hx hb (D_5 W_prog_15_method_78_code_0 31 rfl rfl) rfl ?_
        exact b_M_beat_32 X hf hZ1 hS1 (lv_sub hl [] rfl)
      · replace hf := gpos hf h7
        exact b_M_beat_27 X hf hZ1 hS1 (lv_sub hl [] rfl)
  · replace hf := gneg hf h3
    refine lv_iconst (v := iI 3) hx hb (D_6 W_prog_15_method_78_code_0 7 rfl rfl) rfl ?_
    refine lv_goto (tgt := 32) hx hb (D_167 W_prog_15_method_78_code_0 8 rfl rfl rfl) (by decide) ?_
    exact b_M_beat_32 X hf hZ1 hS1 (lv_sub hl [] rfl)

abbrev Q_M_between_1 (D : va_G) (ca : Nat → ClassId) (ad : Nat → Int → Nat → Nat) (L : List Nat) (r : Int) (F : zF) (B : zB) (A : Nat → Prop) : Array Value → State → Outcome → State → Prop := va_Qi (S := Unit) (fun p _ => p = iI r) (fun _ => zPo D ca ad lnM nM L F B A) A
def f_M_between_1_96 (K : Nat) : Nat → Int → Int → Int → Int → Int → Int → zF → zB → zO
  | 0, _, _, _, _, _, _, _, _ => none
  | n + 1, l11, l10, l2, l4, l6, l8, F, B => if r32 l10 then (if l10 ≤ 1 then some (1, F, B) else zbind (f_M_isBetween K l2 l4 l6 l8 1 l11 F B) (fun r24 F24 B24 => if r32 r24 then (if r24 = 0 then f_M_between_1_96 K n (l11 * 2) (l10 - 1) l2 l4 l6 l8 F24 B24 else some (l10, F24, B24)) else none)) else none
set_option maxHeartbeats 4000000 in
set_option maxRecDepth 100000 in
theorem b_M_between_1_96 {D : va_G} {ca : Nat → ClassId} {ad : Nat → Int → Nat → Nat} {L : List Nat} {aS vS : Nat → Nat} {A : Nat → Prop} {p : Program} {l : Launch} {e : Env} {s : State} {m : MethodId} {args : Array Value} {below : List Frame} {meth : Method} {c : Code} {K : Nat} {r : Int} {F9 : zF} {B9 : zB} (X : zX D ca L aS vS A p s m args meth c prog_15_method_81_code 13 (Option.some Jvm.ClassFile.FieldType.int) "StaveHouseModel") : ∀ {n : Nat} {l11 : Int} {l10 : Int} {l2 : Int} {l4 : Int} {l6 : Int} {l8 : Int} {F : zF} {B : zB} {H : Heap} {locs : List Loc} {ls : Array Slot}, f_M_between_1_96 K n l11 l10 l2 l4 l6 l8 F B = some (r, F9, B9) → zH D ca ad lnM nM L F B A H → va_S A s.heap H locs → lv_has ls 13 [(11, .long (lI l11)), (10, .int (iI l10)), (2, .long (lI l2)), (4, .long (lI l4)), (6, .long (lI l6)), (8, .long (lI l8))] → W p l e ({ frames := 3, cells := 0, slots := 0, locals := 95 } : Room) s m args below meth c H locs 0 0 (MQ below (Q_M_between_1 D ca ad L r F9 B9 A) args s 0 0 A) (F0 m 96 ls []) := by
  obtain ⟨hx, hb, hr, hml, hown, hts, hlk, hK, hA, hL, hX⟩ := id X
  intro n
  induction n with
  | zero =>
    intros
    rename_i hf _ _ _
    cases hf
  | succ n ih =>
    intro l11 l10 l2 l4 l6 l8 F B H locs ls hf hZ hS hl
    replace hf : (if r32 l10 then (if l10 ≤ 1 then some (1, F, B) else zbind (f_M_isBetween K l2 l4 l6 l8 1 l11 F B) (fun r24 F24 B24 => if r32 r24 then (if r24 = 0 then f_M_between_1_96 K n (l11 * 2) (l10 - 1) l2 l4 l6 l8 F24 B24 else some (l10, F24, B24)) else none)) else none) = some (r, F9, B9) := hf
    refine lv_iload hx hb (D_21 W_prog_15_method_81_code_96 0 rfl rfl) (lv_at hl 1 rfl) ?_
    refine lv_iconst (v := iI 1) hx hb (D_4 W_prog_15_method_81_code_96 2 rfl rfl) rfl ?_
    obtain ⟨g22, hf⟩ := gif hf
    refine zle (tgt := 135) hx hb g22 (by decide) (D_164 W_prog_15_method_81_code_96 3 rfl rfl rfl) (by decide) (fun h23 => ?_) (fun h23 => ?_)
    · replace hf := gpos hf h23
      refine lv_iconst (v := iI 1) hx hb (D_4 W_prog_15_method_81_code_128 7 rfl rfl) rfl ?_
      cases hf
      exact W.iret hx hb hr (fun t ht hW => ⟨⟨_, (), rfl, rfl, by rw [ht]; exact hZ, va_K.moved hW.alike hK⟩, hS.F ht⟩) hS.2.2 (D_172 W_prog_15_method_81_code_128 8 rfl rfl) hlk
    · replace hf := gneg hf h23
      refine lv_lload_n hx hb (D_32 W_prog_15_method_81_code_96 6 rfl rfl) rfl (lv_at hl 2 rfl) ?_
      refine lv_lload hx hb (D_22 W_prog_15_method_81_code_96 7 rfl rfl) (lv_at hl 3 rfl) ?_
      refine lv_lload hx hb (D_22 W_prog_15_method_81_code_96 9 rfl rfl) (lv_at hl 4 rfl) ?_
      refine lv_lload hx hb (D_22 W_prog_15_method_81_code_96 11 rfl rfl) (lv_at hl 5 rfl) ?_
      refine lv_lconst (v := lI 1) hx hb (D_10 W_prog_15_method_81_code_96 13 rfl rfl) (by decide) ?_
      refine lv_lload hx hb (D_22 W_prog_15_method_81_code_96 14 rfl rfl) (lv_at hl 0 rfl) ?_
      obtain ⟨r24, F24, B24, hc24, hf⟩ := gbind hf
      refine va_calli (va_runS (As := [.long (lI l2), .long (lI l4), .long (lI l6), .long (lI l8), .long (lI 1), .long (lI l11)]) (rest := []) ⟨hx, hb, hml, hown, hts⟩ (c_M_isBetween (l := l) hc24) (va_cwS 6 hts (gdS k_13_192 k_13_193 k_1_9 k_13_194) rfl rfl rfl (by decide +kernel) ⟨Nat.le_of_ble_eq_true rfl, Nat.le_of_ble_eq_true rfl⟩) (zPS X hZ hS [.long (lI l2), .long (lI l4), .long (lI l6), .long (lI l8), .long (lI 1), .long (lI l11)]) rfl rfl hl.1 rfl (lv_room (Nat.le_of_ble_eq_true rfl)) (D_184 W_prog_15_method_81_code_96 16 rfl rfl rfl) ⟨Nat.le_of_ble_eq_true rfl, Nat.le_of_ble_eq_true rfl⟩) hS (fun q _ h => zAin X hS q h) (zAin X hS) (fun p24 u24 t24 H24 locs24 ht24 hv24 hw24 hB24 hz24 hk24 hS24 => ?_)
      have hZ24 := zBack X ht24 hB24
      subst hw24
      obtain ⟨g25, hf⟩ := gif hf
      refine z0eq (tgt := 121) hx hb g25 (D_153 W_prog_15_method_81_code_96 19 rfl rfl rfl) (by decide) (fun h26 => ?_) (fun h26 => ?_)
      · replace hf := gpos hf h26
        refine lv_iinc (v := iI (l10 - 1)) (lv' := [(10, .int (iI (l10 - 1))), (11, .long (lI l11)), (2, .long (lI l2)), (4, .long (lI l4)), (6, .long (lI l6)), (8, .long (lI l8))]) hx hb d_15_81_121 hl (k := 1) rfl (by rw [show Int32.ofInt (-1) = iI (-1) from rfl, iI_add]; congr 1) (by decide) rfl (fun ls hl => ?_)
        refine lv_lload hx hb (D_22 W_prog_15_method_81_code_96 28 rfl rfl) (lv_at hl 1 rfl) ?_
        refine lv_ldc2 hx hb hown (hts _ k_13_89) (D_20 W_prog_15_method_81_code_96 30 rfl rfl rfl) ?_
        refine W.eq (g2 := F0 m 129 ls [.long (lI 2), .long (lI l11)]) rfl ?_
        refine zlmul hx hb (D_105 W_prog_15_method_81_code_128 1 rfl rfl) ?_
        refine lv_lstore (lv' := [(11, .long (lI (l11 * 2))), (10, .int (iI (l10 - 1))), (2, .long (lI l2)), (4, .long (lI l4)), (6, .long (lI l6)), (8, .long (lI l8))]) hx hb (D_55 W_prog_15_method_81_code_128 2 rfl rfl) hl (by decide) rfl (fun ls hl => ?_)
        refine lv_goto (tgt := 96) hx hb (D_167 W_prog_15_method_81_code_128 4 rfl rfl rfl) (by decide) ?_
        exact ih hf hZ24 hS24 (lv_sub hl [0, 1, 2, 3, 4, 5] rfl)
      · replace hf := gneg hf h26
        refine lv_iload hx hb (D_21 W_prog_15_method_81_code_96 22 rfl rfl) (lv_at hl 1 rfl) ?_
        cases hf
        exact W.iret hx hb hr (fun t ht hW => ⟨⟨_, (), rfl, rfl, by rw [ht]; exact hZ24, va_K.moved hW.alike hK⟩, hS24.F ht⟩) hS24.2.2 (D_172 W_prog_15_method_81_code_96 24 rfl rfl) hlk

def f_M_between_1_59 (K : Nat) (l1 : Int) (l2 : Int) (l4 : Int) (l6 : Int) (l8 : Int) (F : zF) (B : zB) : zO := zbind (f_M_beat K l1 F B) (fun r14 F14 B14 => if r32 r14 then if 0 ≤ l1 ∧ l1 < 3 then if r32 (F14 13 l1 5) then zbind (f_M_isBetween K l2 l4 l6 l8 r14 (F14 13 l1 5) F14 B14) (fun r18 F18 B18 => if r32 r18 then (if r18 = 0 then if r32 (F18 13 l1 5) then f_M_between_1_96 K K (F18 13 l1 5) 6 l2 l4 l6 l8 F18 B18 else none else some (7, F18, B18)) else none) else none else none else none)
set_option maxHeartbeats 4000000 in
set_option maxRecDepth 100000 in
theorem b_M_between_1_59 {D : va_G} {ca : Nat → ClassId} {ad : Nat → Int → Nat → Nat} {L : List Nat} {aS vS : Nat → Nat} {A : Nat → Prop} {p : Program} {l : Launch} {e : Env} {s : State} {m : MethodId} {args : Array Value} {below : List Frame} {meth : Method} {c : Code} {K : Nat} {r : Int} {F9 : zF} {B9 : zB} (X : zX D ca L aS vS A p s m args meth c prog_15_method_81_code 13 (Option.some Jvm.ClassFile.FieldType.int) "StaveHouseModel") {l1 : Int} {l2 : Int} {l4 : Int} {l6 : Int} {l8 : Int} {F : zF} {B : zB} {H : Heap} {locs : List Loc} {ls : Array Slot} (hf : f_M_between_1_59 K l1 l2 l4 l6 l8 F B = some (r, F9, B9)) (hZ : zH D ca ad lnM nM L F B A H) (hS : va_S A s.heap H locs) (hl : lv_has ls 13 [(1, .ref (ad 13 l1 0)), (2, .long (lI l2)), (4, .long (lI l4)), (6, .long (lI l6)), (8, .long (lI l8))]) : W p l e ({ frames := 3, cells := 0, slots := 0, locals := 95 } : Room) s m args below meth c H locs 0 0 (MQ below (Q_M_between_1 D ca ad L r F9 B9 A) args s 0 0 A) (F0 m 59 ls []) := by
  obtain ⟨hx, hb, hr, hml, hown, hts, hlk, hK, hA, hL, hX⟩ := id X
  replace hf : (zbind (f_M_beat K l1 F B) (fun r14 F14 B14 => if r32 r14 then if 0 ≤ l1 ∧ l1 < 3 then if r32 (F14 13 l1 5) then zbind (f_M_isBetween K l2 l4 l6 l8 r14 (F14 13 l1 5) F14 B14) (fun r18 F18 B18 => if r32 r18 then (if r18 = 0 then if r32 (F18 13 l1 5) then f_M_between_1_96 K K (F18 13 l1 5) 6 l2 l4 l6 l8 F18 B18 else none else some (7, F18, B18)) else none) else none else none else none)) = some (r, F9, B9) := hf
  refine lv_lload_n hx hb (D_32 W_prog_15_method_81_code_32 27 rfl rfl) rfl (lv_at hl 1 rfl) ?_
  refine lv_lload hx hb (D_22 W_prog_15_method_81_code_32 28 rfl rfl) (lv_at hl 2 rfl) ?_
  refine lv_lload hx hb (D_22 W_prog_15_method_81_code_32 30 rfl rfl) (lv_at hl 3 rfl) ?_
  refine lv_lload hx hb (D_22 W_prog_15_method_81_code_64 0 rfl rfl) (lv_at hl 4 rfl) ?_
  refine lv_aload_n hx hb (D_43 W_prog_15_method_81_code_64 2 rfl rfl) rfl (lv_at hl 0 rfl) ?_
  obtain ⟨r14, F14, B14, hc14, hf⟩ := gbind hf
  refine va_calli (va_runS (As := [.ref (ad 13 l1 0)]) (rest := [.long (lI l8), .long (lI l6), .long (lI l4), .long (lI l2)]) ⟨hx, hb, hml, hown, hts⟩ (c_M_beat (l := l) hc14) (va_cwS 1 hts (gdS k_13_179 k_13_180 k_1_9 k_13_181) rfl rfl rfl (by decide +kernel) ⟨Nat.le_of_ble_eq_true rfl, Nat.le_of_ble_eq_true rfl⟩) (zPS X hZ hS [.ref (ad 13 l1 0)]) rfl rfl hl.1 rfl (lv_room (Nat.le_of_ble_eq_true rfl)) (D_184 W_prog_15_method_81_code_64 3 rfl rfl rfl) ⟨Nat.le_of_ble_eq_true rfl, Nat.le_of_ble_eq_true rfl⟩) hS (fun q _ h => zAin X hS q h) (zAin X hS) (fun p14 u14 t14 H14 locs14 ht14 hv14 hw14 hB14 hz14 hk14 hS14 => ?_)
  have hZ14 := zBack X ht14 hB14
  subst hw14
  obtain ⟨g15, hf⟩ := gif hf
  refine zi2l hx hb g15 (D_133 W_prog_15_method_81_code_64 6 rfl rfl) ?_
  refine lv_aload_n hx hb (D_43 W_prog_15_method_81_code_64 7 rfl rfl) rfl (lv_at hl 0 rfl) ?_
  obtain ⟨g16, hf⟩ := gif hf
  refine zget (ci := 13) (C := RX13) (T := TX13) (v := .int (iI (F14 13 l1 5))) (k := 5) hx hb hts inW_13 hown hK hZ14 g16.1 g16.2 rfl (by decide) k_9_130 rfl (D_180 W_prog_15_method_81_code_64 8 rfl rfl rfl) ?_
  obtain ⟨g17, hf⟩ := gif hf
  refine zi2l hx hb g17 (D_133 W_prog_15_method_81_code_64 11 rfl rfl) ?_
  obtain ⟨r18, F18, B18, hc18, hf⟩ := gbind hf
  refine va_calli (va_runS (As := [.long (lI l2), .long (lI l4), .long (lI l6), .long (lI l8), .long (lI r14), .long (lI (F14 13 l1 5))]) (rest := []) ⟨hx, hb, hml, hown, hts⟩ (c_M_isBetween (l := l) hc18) (va_cwS 6 hts (gdS k_13_192 k_13_193 k_1_9 k_13_194) rfl rfl rfl (by decide +kernel) ⟨Nat.le_of_ble_eq_true rfl, Nat.le_of_ble_eq_true rfl⟩) (zPS X hZ14 hS14 [.long (lI l2), .long (lI l4), .long (lI l6), .long (lI l8), .long (lI r14), .long (lI (F14 13 l1 5))]) rfl rfl hl.1 rfl (lv_room (Nat.le_of_ble_eq_true rfl)) (D_184 W_prog_15_method_81_code_64 12 rfl rfl rfl) ⟨Nat.le_of_ble_eq_true rfl, Nat.le_of_ble_eq_true rfl⟩) hS14 (fun q _ h => zAin X hS14 q h) (zAin X hS14) (fun p18 u18 t18 H18 locs18 ht18 hv18 hw18 hB18 hz18 hk18 hS18 => ?_)
  have hZ18 := zBack X ht18 hB18
  subst hw18
  obtain ⟨g19, hf⟩ := gif hf
  refine z0eq (tgt := 85) hx hb g19 (D_153 W_prog_15_method_81_code_64 15 rfl rfl rfl) (by decide) (fun h20 => ?_) (fun h20 => ?_)
  · replace hf := gpos hf h20
    refine lv_bipush (v := iI 6) hx hb (D_16 W_prog_15_method_81_code_64 21 rfl rfl rfl) (by decide) ?_
    refine lv_istore (lv' := [(10, .int (iI 6)), (1, .ref (ad 13 l1 0)), (2, .long (lI l2)), (4, .long (lI l4)), (6, .long (lI l6)), (8, .long (lI l8))]) hx hb (D_54 W_prog_15_method_81_code_64 23 rfl rfl) hl (by decide) rfl (fun ls hl => ?_)
    refine lv_aload_n hx hb (D_43 W_prog_15_method_81_code_64 25 rfl rfl) rfl (lv_at hl 1 rfl) ?_
    refine zget (ci := 13) (C := RX13) (T := TX13) (v := .int (iI (F18 13 l1 5))) (k := 5) hx hb hts inW_13 hown hK hZ18 g16.1 g16.2 rfl (by decide) k_9_130 rfl (D_180 W_prog_15_method_81_code_64 26 rfl rfl rfl) ?_
    obtain ⟨g21, hf⟩ := gif hf
    refine zi2l hx hb g21 (D_133 W_prog_15_method_81_code_64 29 rfl rfl) ?_
    refine lv_lstore (lv' := [(11, .long (lI (F18 13 l1 5))), (10, .int (iI 6)), (1, .ref (ad 13 l1 0)), (2, .long (lI l2)), (4, .long (lI l4)), (6, .long (lI l6)), (8, .long (lI l8))]) hx hb (D_55 W_prog_15_method_81_code_64 30 rfl rfl) hl (by decide) rfl (fun ls hl => ?_)
    exact b_M_between_1_96 X hf hZ18 hS18 (lv_sub hl [0, 1, 3, 4, 5, 6] rfl)
  · replace hf := gneg hf h20
    refine lv_bipush (v := iI 7) hx hb (D_16 W_prog_15_method_81_code_64 18 rfl rfl rfl) (by decide) ?_
    cases hf
    exact W.iret hx hb hr (fun t ht hW => ⟨⟨_, (), rfl, rfl, by rw [ht]; exact hZ18, va_K.moved hW.alike hK⟩, hS18.F ht⟩) hS18.2.2 (D_172 W_prog_15_method_81_code_64 20 rfl rfl) hlk

def f_M_between_1 (K : Nat) (l1 : Int) (l2 : Int) (l4 : Int) (l6 : Int) (l8 : Int) (F : zF) (B : zB) : zO := if 0 ≤ l1 ∧ l1 < 3 then if r32 (zrm (F 13 l1 4) 2) then (if (zrm (F 13 l1 4) 2) = 0 then if r32 (F 13 l1 4) then if r32 (F 13 l1 5) then zbind (f_M_compare K l2 l4 (F 13 l1 4) (2 * (F 13 l1 5)) F B) (fun r6 F6 B6 => if r32 r6 then (if 0 ≤ r6 then f_M_between_1_59 K l1 l2 l4 l6 l8 F6 B6 else if r32 (F6 13 l1 4) then if r32 (F6 13 l1 5) then zbind (f_M_compare K (F6 13 l1 4) (2 * (F6 13 l1 5)) l6 l8 F6 B6) (fun r11 F11 B11 => if r32 r11 then (if 0 ≤ r11 then f_M_between_1_59 K l1 l2 l4 l6 l8 F11 B11 else some (8, F11, B11)) else none) else none else none) else none) else none else none else f_M_between_1_59 K l1 l2 l4 l6 l8 F B) else none else none
set_option maxHeartbeats 4000000 in
set_option maxRecDepth 100000 in
theorem c_M_between_1 {l : Launch} {D : va_G} {ca : Nat → ClassId} {ad : Nat → Int → Nat → Nat} {L : List Nat} {aS vS : Nat → Nat} {sz K : Nat}  {l1 : Int} {l2 : Int} {l4 : Int} {l6 : Int} {l8 : Int} {F F9 : zF} {B B9 : zB} {r : Int} (hf : f_M_between_1 K l1 l2 l4 l6 l8 F B = some (r, F9, B9)) : Met l ({ cls := "StaveHouseModel", name := "between", desc := "(LStaveHouseModel$Piece;JJJJ)I" } : Jvm.MethodName) (Cond.code ({ cls := "StaveHouseModel", name := "between", desc := "(LStaveHouseModel$Piece;JJJJ)I" } : Jvm.MethodName) prog_15_method_81_code 13 (Option.some Jvm.ClassFile.FieldType.int) :: wAll) ({ frames := 3, cells := 0, slots := 0, locals := 95 } : Room) (va_Pc [.ref (ad 14 0 0), .ref (ad 13 l1 0), .long (lI l2), .long (lI l4), .long (lI l6), .long (lI l8)] (zPre D ca ad lnM nM L aS vS F B sz)) (Q_M_between_1 D ca ad L r F9 B9 (zA L sz)) 0 0 (zA L sz) := by
  refine zMet (Qc := Q_M_between_1 D ca ad L r F9 B9) (lv := [(0, .ref (ad 14 0 0)), (1, .ref (ad 13 l1 0)), (2, .long (lI l2)), (4, .long (lI l4)), (6, .long (lI l6)), (8, .long (lI l8))]) (by decide) (Nat.le_of_ble_eq_true rfl) rfl (fun A p e s m below meth c ls X hZ hS hl => ?_)
  obtain ⟨hx, hb, hr, hml, hown, hts, hlk, hK, hA, hL, hX⟩ := id X
  replace hf : (if 0 ≤ l1 ∧ l1 < 3 then if r32 (zrm (F 13 l1 4) 2) then (if (zrm (F 13 l1 4) 2) = 0 then if r32 (F 13 l1 4) then if r32 (F 13 l1 5) then zbind (f_M_compare K l2 l4 (F 13 l1 4) (2 * (F 13 l1 5)) F B) (fun r6 F6 B6 => if r32 r6 then (if 0 ≤ r6 then f_M_between_1_59 K l1 l2 l4 l6 l8 F6 B6 else if r32 (F6 13 l1 4) then if r32 (F6 13 l1 5) then zbind (f_M_compare K (F6 13 l1 4) (2 * (F6 13 l1 5)) l6 l8 F6 B6) (fun r11 F11 B11 => if r32 r11 then (if 0 ≤ r11 then f_M_between_1_59 K l1 l2 l4 l6 l8 F11 B11 else some (8, F11, B11)) else none) else none else none) else none) else none else none else f_M_between_1_59 K l1 l2 l4 l6 l8 F B) else none else none) = some (r, F9, B9) := hf
  refine lv_aload_n hx hb (D_43 W_prog_15_method_81_code_0 0 rfl rfl) rfl (lv_at hl 1 rfl) ?_
  obtain ⟨g1, hf⟩ := gif hf
  refine zget (ci := 13) (C := RX13) (T := TX13) (v := .int (iI (F 13 l1 4))) (k := 4) hx hb hts inW_13 hown hK hZ g1.1 g1.2 rfl (by decide) k_9_129 rfl (D_180 W_prog_15_method_81_code_0 1 rfl rfl rfl) ?_
  refine lv_iconst (v := iI 2) hx hb (D_5 W_prog_15_method_81_code_0 4 rfl rfl) rfl ?_
  refine zrm_r hx hb (by decide) (D_112 W_prog_15_method_81_code_0 5 rfl rfl) ?_
  obtain ⟨g2, hf⟩ := gif hf
  refine z0ne (tgt := 59) hx hb g2 (D_154 W_prog_15_method_81_code_0 6 rfl rfl rfl) (by decide) (fun h3 => ?_) (fun h3 => ?_)
  · replace hf := gneg hf h3
    exact b_M_between_1_59 X hf hZ hS (lv_sub hl [1, 2, 3, 4, 5] rfl)
  · replace hf := gpos hf h3
    refine lv_lload_n hx hb (D_32 W_prog_15_method_81_code_0 9 rfl rfl) rfl (lv_at hl 2 rfl) ?_
    refine lv_lload hx hb (D_22 W_prog_15_method_81_code_0 10 rfl rfl) (lv_at hl 3 rfl) ?_
    refine lv_aload_n hx hb (D_43 W_prog_15_method_81_code_0 12 rfl rfl) rfl (lv_at hl 1 rfl) ?_
    refine zget (ci := 13) (C := RX13) (T := TX13) (v := .int (iI (F 13 l1 4))) (k := 4) hx hb hts inW_13 hown hK hZ g1.1 g1.2 rfl (by decide) k_9_129 rfl (D_180 W_prog_15_method_81_code_0 13 rfl rfl rfl) ?_
    obtain ⟨g4, hf⟩ := gif hf
    refine zi2l hx hb g4 (D_133 W_prog_15_method_81_code_0 16 rfl rfl) ?_
    refine lv_ldc2 hx hb hown (hts _ k_13_89) (D_20 W_prog_15_method_81_code_0 17 rfl rfl rfl) ?_
    refine W.eq (g2 := F0 m 20 ls [.long (lI 2), .long (lI (F 13 l1 4)), .long (lI l4), .long (lI l2)]) rfl ?_
    refine lv_aload_n hx hb (D_43 W_prog_15_method_81_code_0 20 rfl rfl) rfl (lv_at hl 1 rfl) ?_
    refine zget (ci := 13) (C := RX13) (T := TX13) (v := .int (iI (F 13 l1 5))) (k := 5) hx hb hts inW_13 hown hK hZ g1.1 g1.2 rfl (by decide) k_9_130 rfl (D_180 W_prog_15_method_81_code_0 21 rfl rfl rfl) ?_
    obtain ⟨g5, hf⟩ := gif hf
    refine zi2l hx hb g5 (D_133 W_prog_15_method_81_code_0 24 rfl rfl) ?_
    refine zlmul hx hb (D_105 W_prog_15_method_81_code_0 25 rfl rfl) ?_
    obtain ⟨r6, F6, B6, hc6, hf⟩ := gbind hf
    refine va_calli (va_runS (As := [.long (lI l2), .long (lI l4), .long (lI (F 13 l1 4)), .long (lI (2 * (F 13 l1 5)))]) (rest := []) ⟨hx, hb, hml, hown, hts⟩ (c_M_compare (l := l) hc6) (va_cwS 4 hts (gdS k_13_104 k_13_105 k_1_9 k_13_106) rfl rfl rfl (by decide +kernel) ⟨Nat.le_of_ble_eq_true rfl, Nat.le_of_ble_eq_true rfl⟩) (zPS X hZ hS [.long (lI l2), .long (lI l4), .long (lI (F 13 l1 4)), .long (lI (2 * (F 13 l1 5)))]) rfl rfl hl.1 rfl (lv_room (Nat.le_of_ble_eq_true rfl)) (D_184 W_prog_15_method_81_code_0 26 rfl rfl rfl) ⟨Nat.le_of_ble_eq_true rfl, Nat.le_of_ble_eq_true rfl⟩) hS (fun q _ h => zAin X hS q h) (zAin X hS) (fun p6 u6 t6 H6 locs6 ht6 hv6 hw6 hB6 hz6 hk6 hS6 => ?_)
    have hZ6 := zBack X ht6 hB6
    subst hw6
    obtain ⟨g7, hf⟩ := gif hf
    refine z0ge (tgt := 59) hx hb g7 (D_156 W_prog_15_method_81_code_0 29 rfl rfl rfl) (by decide) (fun h8 => ?_) (fun h8 => ?_)
    · replace hf := gpos hf h8
      exact b_M_between_1_59 X hf hZ6 hS6 (lv_sub hl [1, 2, 3, 4, 5] rfl)
    · replace hf := gneg hf h8
      refine lv_aload_n hx hb (D_43 W_prog_15_method_81_code_32 0 rfl rfl) rfl (lv_at hl 1 rfl) ?_
      refine zget (ci := 13) (C := RX13) (T := TX13) (v := .int (iI (F6 13 l1 4))) (k := 4) hx hb hts inW_13 hown hK hZ6 g1.1 g1.2 rfl (by decide) k_9_129 rfl (D_180 W_prog_15_method_81_code_32 1 rfl rfl rfl) ?_
      obtain ⟨g9, hf⟩ := gif hf
      refine zi2l hx hb g9 (D_133 W_prog_15_method_81_code_32 4 rfl rfl) ?_
      refine lv_ldc2 hx hb hown (hts _ k_13_89) (D_20 W_prog_15_method_81_code_32 5 rfl rfl rfl) ?_
      refine W.eq (g2 := F0 m 40 ls [.long (lI 2), .long (lI (F6 13 l1 4))]) rfl ?_
      refine lv_aload_n hx hb (D_43 W_prog_15_method_81_code_32 8 rfl rfl) rfl (lv_at hl 1 rfl) ?_
      refine zget (ci := 13) (C := RX13) (T := TX13) (v := .int (iI (F6 13 l1 5))) (k := 5) hx hb hts inW_13 hown hK hZ6 g1.1 g1.2 rfl (by decide) k_9_130 rfl (D_180 W_prog_15_method_81_code_32 9 rfl rfl rfl) ?_
      obtain ⟨g10, hf⟩ := gif hf
      refine zi2l hx hb g10 (D_133 W_prog_15_method_81_code_32 12 rfl rfl) ?_
      refine zlmul hx hb (D_105 W_prog_15_method_81_code_32 13 rfl rfl) ?_
      refine lv_lload hx hb (D_22 W_prog_15_method_81_code_32 14 rfl rfl) (lv_at hl 4 rfl) ?_
      refine lv_lload hx hb (D_22 W_prog_15_method_81_code_32 16 rfl rfl) (lv_at hl 5 rfl) ?_
      obtain ⟨r11, F11, B11, hc11, hf⟩ := gbind hf
      refine va_calli (va_runS (As := [.long (lI (F6 13 l1 4)), .long (lI (2 * (F6 13 l1 5))), .long (lI l6), .long (lI l8)]) (rest := []) ⟨hx, hb, hml, hown, hts⟩ (c_M_compare (l := l) hc11) (va_cwS 4 hts (gdS k_13_104 k_13_105 k_1_9 k_13_106) rfl rfl rfl (by decide +kernel) ⟨Nat.le_of_ble_eq_true rfl, Nat.le_of_ble_eq_true rfl⟩) (zPS X hZ6 hS6 [.long (lI (F6 13 l1 4)), .long (lI (2 * (F6 13 l1 5))), .long (lI l6), .long (lI l8)]) rfl rfl hl.1 rfl (lv_room (Nat.le_of_ble_eq_true rfl)) (D_184 W_prog_15_method_81_code_32 18 rfl rfl rfl) ⟨Nat.le_of_ble_eq_true rfl, Nat.le_of_ble_eq_true rfl⟩) hS6 (fun q _ h => zAin X hS6 q h) (zAin X hS6) (fun p11 u11 t11 H11 locs11 ht11 hv11 hw11 hB11 hz11 hk11 hS11 => ?_)
      have hZ11 := zBack X ht11 hB11
      subst hw11
      obtain ⟨g12, hf⟩ := gif hf
      refine z0ge (tgt := 59) hx hb g12 (D_156 W_prog_15_method_81_code_32 21 rfl rfl rfl) (by decide) (fun h13 => ?_) (fun h13 => ?_)
      · replace hf := gpos hf h13
        exact b_M_between_1_59 X hf hZ11 hS11 (lv_sub hl [1, 2, 3, 4, 5] rfl)
      · replace hf := gneg hf h13
        refine lv_bipush (v := iI 8) hx hb (D_16 W_prog_15_method_81_code_32 24 rfl rfl rfl) (by decide) ?_
        cases hf
        exact W.iret hx hb hr (fun t ht hW => ⟨⟨_, (), rfl, rfl, by rw [ht]; exact hZ11, va_K.moved hW.alike hK⟩, hS11.F ht⟩) hS11.2.2 (D_172 W_prog_15_method_81_code_32 26 rfl rfl) hlk

