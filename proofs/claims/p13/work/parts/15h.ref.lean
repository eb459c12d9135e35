theorem k_12_99 : (Jvm.Cond.methodLink "StaveHouseModel" (844 : Nat) ({ cls := "StaveHouseModel", name := "lineWide", desc := "(LStaveHouseModel$Piece;II)I" } : Jvm.MethodName)) ∈ wAll := wA_12 (j := 99) rfl rfl
theorem k_12_100 : (Jvm.Cond.static ({ cls := "StaveHouseModel", name := "lineWide", desc := "(LStaveHouseModel$Piece;II)I" } : Jvm.MethodName)) ∈ wAll := wA_12 (j := 100) rfl rfl
theorem k_12_101 : (Jvm.Cond.code ({ cls := "StaveHouseModel", name := "lineWide", desc := "(LStaveHouseModel$Piece;II)I" } : Jvm.MethodName) prog_15_method_106_code (5 : Nat) (Option.some Jvm.ClassFile.FieldType.int)) ∈ wAll := wA_12 (j := 101) rfl rfl
theorem k_12_139 : (Jvm.Cond.methodLink "StaveHouseModel" (885 : Nat) ({ cls := "StaveHouseModel", name := "tick", desc := "(JJ)I" } : Jvm.MethodName)) ∈ wAll := wA_12 (j := 139) rfl rfl
theorem k_12_140 : (Jvm.Cond.static ({ cls := "StaveHouseModel", name := "tick", desc := "(JJ)I" } : Jvm.MethodName)) ∈ wAll := wA_12 (j := 140) rfl rfl
theorem k_12_141 : (Jvm.Cond.code ({ cls := "StaveHouseModel", name := "tick", desc := "(JJ)I" } : Jvm.MethodName) prog_15_method_112_code (4 : Nat) (Option.some Jvm.ClassFile.FieldType.int)) ∈ wAll := wA_12 (j := 141) rfl rfl
theorem k_12_129 : (Jvm.Cond.methodLink "StaveHouseModel" (892 : Nat) ({ cls := "StaveHouseModel", name := "ties", desc := "(LStaveHouseModel$Piece;III)Z" } : Jvm.MethodName)) ∈ wAll := wA_12 (j := 129) rfl rfl
theorem k_12_130 : (Jvm.Cond.static ({ cls := "StaveHouseModel", name := "ties", desc := "(LStaveHouseModel$Piece;III)Z" } : Jvm.MethodName)) ∈ wAll := wA_12 (j := 130) rfl rfl
theorem k_12_131 : (Jvm.Cond.code ({ cls := "StaveHouseModel", name := "ties", desc := "(LStaveHouseModel$Piece;III)Z" } : Jvm.MethodName) prog_15_method_115_code (4 : Nat) (Option.some Jvm.ClassFile.FieldType.boolean)) ∈ wAll := wA_12 (j := 131) rfl rfl
theorem k_12_143 : (Jvm.Cond.methodLink "StaveHouseModel" (902 : Nat) ({ cls := "StaveHouseModel", name := "endTick", desc := "(LStaveHouseModel$Piece;I)I" } : Jvm.MethodName)) ∈ wAll := wA_12 (j := 143) rfl rfl
theorem k_12_145 : (Jvm.Cond.instanceMethod ({ cls := "StaveHouseModel", name := "endTick", desc := "(LStaveHouseModel$Piece;I)I" } : Jvm.MethodName)) ∈ wAll := wA_12 (j := 145) rfl rfl
theorem ks_134 : (Jvm.Cond.selects "StaveHouseModel" ({ cls := "StaveHouseModel", name := "endTick", desc := "(LStaveHouseModel$Piece;I)I" } : Jvm.MethodName) ({ cls := "StaveHouseModel", name := "endTick", desc := "(LStaveHouseModel$Piece;I)I" } : Jvm.MethodName)) ∈ wAll := wA_s (j := 134) rfl rfl
theorem k_12_146 : (Jvm.Cond.code ({ cls := "StaveHouseModel", name := "endTick", desc := "(LStaveHouseModel$Piece;I)I" } : Jvm.MethodName) prog_15_method_113_code (3 : Nat) (Option.some Jvm.ClassFile.FieldType.int)) ∈ wAll := wA_12 (j := 146) rfl rfl
theorem k_9_172 : (Jvm.Cond.fieldLink "StaveHouseModel" (649 : Nat) "StaveHouseModel$Piece" "slur" "[Z") ∈ wAll := wA_9 (j := 172) rfl rfl
theorem k_12_170 : (Jvm.Cond.methodLink "StaveHouseModel" (905 : Nat) ({ cls := "StaveHouseModel", name := "forceOf", desc := "(LStaveHouseModel$Piece;I)I" } : Jvm.MethodName)) ∈ wAll := wA_12 (j := 170) rfl rfl
theorem k_12_172 : (Jvm.Cond.instanceMethod ({ cls := "StaveHouseModel", name := "forceOf", desc := "(LStaveHouseModel$Piece;I)I" } : Jvm.MethodName)) ∈ wAll := wA_12 (j := 172) rfl rfl
theorem ks_137 : (Jvm.Cond.selects "StaveHouseModel" ({ cls := "StaveHouseModel", name := "forceOf", desc := "(LStaveHouseModel$Piece;I)I" } : Jvm.MethodName) ({ cls := "StaveHouseModel", name := "forceOf", desc := "(LStaveHouseModel$Piece;I)I" } : Jvm.MethodName)) ∈ wAll := wA_s (j := 137) rfl rfl
theorem k_12_173 : (Jvm.Cond.code ({ cls := "StaveHouseModel", name := "forceOf", desc := "(LStaveHouseModel$Piece;I)I" } : Jvm.MethodName) prog_15_method_117_code (4 : Nat) (Option.some Jvm.ClassFile.FieldType.int)) ∈ wAll := wA_12 (j := 173) rfl rfl
theorem k_12_174 : (Jvm.Cond.methodLink "StaveHouseModel" (908 : Nat) ({ cls := "StaveHouseModel", name := "sound", desc := "(IIIIII)V" } : Jvm.MethodName)) ∈ wAll := wA_12 (j := 174) rfl rfl
theorem k_12_176 : (Jvm.Cond.instanceMethod ({ cls := "StaveHouseModel", name := "sound", desc := "(IIIIII)V" } : Jvm.MethodName)) ∈ wAll := wA_12 (j := 176) rfl rfl
theorem ks_138 : (Jvm.Cond.selects "StaveHouseModel" ({ cls := "StaveHouseModel", name := "sound", desc := "(IIIIII)V" } : Jvm.MethodName) ({ cls := "StaveHouseModel", name := "sound", desc := "(IIIIII)V" } : Jvm.MethodName)) ∈ wAll := wA_s (j := 138) rfl rfl
theorem k_12_177 : (Jvm.Cond.code ({ cls := "StaveHouseModel", name := "sound", desc := "(IIIIII)V" } : Jvm.MethodName) prog_15_method_114_code (7 : Nat) (Option.none : Option Jvm.ClassFile.FieldType)) ∈ wAll := wA_12 (j := 177) rfl rfl
theorem k_12_212 : (Jvm.Cond.constant "StaveHouseModel" (980 : Nat) (60000000 : Int32)) ∈ wAll := wA_12 (j := 212) rfl rfl
theorem k_9_131 : (Jvm.Cond.fieldLink "StaveHouseModel" (410 : Nat) "StaveHouseModel$Piece" "tempo" "I") ∈ wAll := wA_9 (j := 131) rfl rfl
theorem k_12_217 : (Jvm.Cond.methodLink "StaveHouseModel" (984 : Nat) ({ cls := "StaveHouseModel", name := "voiceTrack", desc := "(LStaveHouseModel$Piece;I)V" } : Jvm.MethodName)) ∈ wAll := wA_12 (j := 217) rfl rfl
theorem k_12_219 : (Jvm.Cond.instanceMethod ({ cls := "StaveHouseModel", name := "voiceTrack", desc := "(LStaveHouseModel$Piece;I)V" } : Jvm.MethodName)) ∈ wAll := wA_12 (j := 219) rfl rfl
theorem ks_146 : (Jvm.Cond.selects "StaveHouseModel" ({ cls := "StaveHouseModel", name := "voiceTrack", desc := "(LStaveHouseModel$Piece;I)V" } : Jvm.MethodName) ({ cls := "StaveHouseModel", name := "voiceTrack", desc := "(LStaveHouseModel$Piece;I)V" } : Jvm.MethodName)) ∈ wAll := wA_s (j := 146) rfl rfl
theorem k_12_220 : (Jvm.Cond.code ({ cls := "StaveHouseModel", name := "voiceTrack", desc := "(LStaveHouseModel$Piece;I)V" } : Jvm.MethodName) prog_15_method_132_code (6 : Nat) (Option.none : Option Jvm.ClassFile.FieldType)) ∈ wAll := wA_12 (j := 220) rfl rfl
theorem k_13_52 : (Jvm.Cond.methodLink "StaveHouseModel" (1054 : Nat) ({ cls := "StaveHouseModel", name := "below", desc := "()I" } : Jvm.MethodName)) ∈ wAll := wA_13 (j := 52) rfl rfl
theorem k_13_54 : (Jvm.Cond.instanceMethod ({ cls := "StaveHouseModel", name := "below", desc := "()I" } : Jvm.MethodName)) ∈ wAll := wA_13 (j := 54) rfl rfl
theorem ks_161 : (Jvm.Cond.selects "StaveHouseModel" ({ cls := "StaveHouseModel", name := "below", desc := "()I" } : Jvm.MethodName) ({ cls := "StaveHouseModel", name := "below", desc := "()I" } : Jvm.MethodName)) ∈ wAll := wA_s (j := 161) rfl rfl
theorem k_13_55 : (Jvm.Cond.code ({ cls := "StaveHouseModel", name := "below", desc := "()I" } : Jvm.MethodName) prog_15_method_146_code (2 : Nat) (Option.some Jvm.ClassFile.FieldType.int)) ∈ wAll := wA_13 (j := 55) rfl rfl
theorem k_13_44 : (Jvm.Cond.methodLink "StaveHouseModel" (1048 : Nat) ({ cls := "StaveHouseModel", name := "seven", desc := "()I" } : Jvm.MethodName)) ∈ wAll := wA_13 (j := 44) rfl rfl
theorem k_13_46 : (Jvm.Cond.instanceMethod ({ cls := "StaveHouseModel", name := "seven", desc := "()I" } : Jvm.MethodName)) ∈ wAll := wA_13 (j := 46) rfl rfl
theorem ks_159 : (Jvm.Cond.selects "StaveHouseModel" ({ cls := "StaveHouseModel", name := "seven", desc := "()I" } : Jvm.MethodName) ({ cls := "StaveHouseModel", name := "seven", desc := "()I" } : Jvm.MethodName)) ∈ wAll := wA_s (j := 159) rfl rfl
theorem k_13_47 : (Jvm.Cond.code ({ cls := "StaveHouseModel", name := "seven", desc := "()I" } : Jvm.MethodName) prog_15_method_144_code (4 : Nat) (Option.some Jvm.ClassFile.FieldType.int)) ∈ wAll := wA_13 (j := 47) rfl rfl
theorem k_11_89 : (Jvm.Cond.fieldLink "StaveHouseModel" (1014 : Nat) "StaveHouseModel" "hasTime" "Z") ∈ wAll := wA_11 (j := 89) rfl rfl
theorem k_11_90 : (Jvm.Cond.fieldLink "StaveHouseModel" (1017 : Nat) "StaveHouseModel" "hasKey" "Z") ∈ wAll := wA_11 (j := 90) rfl rfl
theorem k_11_91 : (Jvm.Cond.fieldLink "StaveHouseModel" (1020 : Nat) "StaveHouseModel" "hasTempo" "Z") ∈ wAll := wA_11 (j := 91) rfl rfl
theorem k_13_95 : (Jvm.Cond.methodLink "StaveHouseModel" (1088 : Nat) ({ cls := "StaveHouseModel", name := "spell", desc := "(II)V" } : Jvm.MethodName)) ∈ wAll := wA_13 (j := 95) rfl rfl
theorem k_13_97 : (Jvm.Cond.instanceMethod ({ cls := "StaveHouseModel", name := "spell", desc := "(II)V" } : Jvm.MethodName)) ∈ wAll := wA_13 (j := 97) rfl rfl
theorem ks_168 : (Jvm.Cond.selects "StaveHouseModel" ({ cls := "StaveHouseModel", name := "spell", desc := "(II)V" } : Jvm.MethodName) ({ cls := "StaveHouseModel", name := "spell", desc := "(II)V" } : Jvm.MethodName)) ∈ wAll := wA_s (j := 168) rfl rfl
theorem k_13_98 : (Jvm.Cond.code ({ cls := "StaveHouseModel", name := "spell", desc := "(II)V" } : Jvm.MethodName) prog_15_method_157_code (10 : Nat) (Option.none : Option Jvm.ClassFile.FieldType)) ∈ wAll := wA_13 (j := 98) rfl rfl
theorem k_13_185 : (Jvm.Cond.methodLink "StaveHouseModel" (568 : Nat) ({ cls := "StaveHouseModel", name := "isMultiple", desc := "(JJJJ)Z" } : Jvm.MethodName)) ∈ wAll := wA_13 (j := 185) rfl rfl
theorem k_13_186 : (Jvm.Cond.static ({ cls := "StaveHouseModel", name := "isMultiple", desc := "(JJJJ)Z" } : Jvm.MethodName)) ∈ wAll := wA_13 (j := 186) rfl rfl
theorem k_13_187 : (Jvm.Cond.code ({ cls := "StaveHouseModel", name := "isMultiple", desc := "(JJJJ)Z" } : Jvm.MethodName) prog_15_method_8_code (8 : Nat) (Option.some Jvm.ClassFile.FieldType.boolean)) ∈ wAll := wA_13 (j := 187) rfl rfl
theorem k_9_222 : (Jvm.Cond.fieldLink "StaveHouseModel" (918 : Nat) "StaveHouseModel$Piece" "sounds" "I") ∈ wAll := wA_9 (j := 222) rfl rfl
theorem k_9_224 : (Jvm.Cond.fieldLink "StaveHouseModel" (919 : Nat) "StaveHouseModel$Piece" "begins" "[I") ∈ wAll := wA_9 (j := 224) rfl rfl
theorem k_13_211 : (Jvm.Cond.constantLong "StaveHouseModel" (1150 : Nat) (5000 : Int64)) ∈ wAll := wA_13 (j := 211) rfl rfl
theorem k_9_226 : (Jvm.Cond.fieldLink "StaveHouseModel" (920 : Nat) "StaveHouseModel$Piece" "ends" "[I") ∈ wAll := wA_9 (j := 226) rfl rfl
theorem k_9_228 : (Jvm.Cond.fieldLink "StaveHouseModel" (921 : Nat) "StaveHouseModel$Piece" "tone" "[I") ∈ wAll := wA_9 (j := 228) rfl rfl
theorem k_13_212 : (Jvm.Cond.methodLink "StaveHouseModel" (1152 : Nat) ({ cls := "StaveHouseModel", name := "turn", desc := "(I)J" } : Jvm.MethodName)) ∈ wAll := wA_13 (j := 212) rfl rfl
theorem k_13_214 : (Jvm.Cond.instanceMethod ({ cls := "StaveHouseModel", name := "turn", desc := "(I)J" } : Jvm.MethodName)) ∈ wAll := wA_13 (j := 214) rfl rfl
theorem ks_186 : (Jvm.Cond.selects "StaveHouseModel" ({ cls := "StaveHouseModel", name := "turn", desc := "(I)J" } : Jvm.MethodName) ({ cls := "StaveHouseModel", name := "turn", desc := "(I)J" } : Jvm.MethodName)) ∈ wAll := wA_s (j := 186) rfl rfl
theorem k_13_215 : (Jvm.Cond.code ({ cls := "StaveHouseModel", name := "turn", desc := "(I)J" } : Jvm.MethodName) prog_15_method_161_code (5 : Nat) (Option.some Jvm.ClassFile.FieldType.long)) ∈ wAll := wA_13 (j := 215) rfl rfl
theorem k_9_232 : (Jvm.Cond.fieldLink "StaveHouseModel" (926 : Nat) "StaveHouseModel$Piece" "voiceOf" "[I") ∈ wAll := wA_9 (j := 232) rfl rfl
theorem k_13_232 : (Jvm.Cond.methodLink "StaveHouseModel" (1155 : Nat) ({ cls := "StaveHouseModel", name := "wave", desc := "(II)I" } : Jvm.MethodName)) ∈ wAll := wA_13 (j := 232) rfl rfl
theorem k_13_233 : (Jvm.Cond.static ({ cls := "StaveHouseModel", name := "wave", desc := "(II)I" } : Jvm.MethodName)) ∈ wAll := wA_13 (j := 233) rfl rfl
theorem k_13_234 : (Jvm.Cond.code ({ cls := "StaveHouseModel", name := "wave", desc := "(II)I" } : Jvm.MethodName) prog_15_method_165_code (3 : Nat) (Option.some Jvm.ClassFile.FieldType.int)) ∈ wAll := wA_13 (j := 234) rfl rfl
theorem k_13_235 : (Jvm.Cond.methodLink "StaveHouseModel" (1158 : Nat) ({ cls := "StaveHouseModel", name := "level", desc := "(II)I" } : Jvm.MethodName)) ∈ wAll := wA_13 (j := 235) rfl rfl
theorem k_13_236 : (Jvm.Cond.static ({ cls := "StaveHouseModel", name := "level", desc := "(II)I" } : Jvm.MethodName)) ∈ wAll := wA_13 (j := 236) rfl rfl
theorem k_13_237 : (Jvm.Cond.code ({ cls := "StaveHouseModel", name := "level", desc := "(II)I" } : Jvm.MethodName) prog_15_method_164_code (2 : Nat) (Option.some Jvm.ClassFile.FieldType.int)) ∈ wAll := wA_13 (j := 237) rfl rfl
theorem k_9_230 : (Jvm.Cond.fieldLink "StaveHouseModel" (923 : Nat) "StaveHouseModel$Piece" "force" "[I") ∈ wAll := wA_9 (j := 230) rfl rfl
theorem k_14_40 : (Jvm.Cond.methodLink "StaveHouseModel" (1223 : Nat) ({ cls := "StaveHouseModel", name := "ofSmallThird", desc := "(II)I" } : Jvm.MethodName)) ∈ wAll := wA_14 (j := 40) rfl rfl
theorem k_14_41 : (Jvm.Cond.static ({ cls := "StaveHouseModel", name := "ofSmallThird", desc := "(II)I" } : Jvm.MethodName)) ∈ wAll := wA_14 (j := 41) rfl rfl
theorem k_14_42 : (Jvm.Cond.code ({ cls := "StaveHouseModel", name := "ofSmallThird", desc := "(II)I" } : Jvm.MethodName) prog_15_method_179_code (2 : Nat) (Option.some Jvm.ClassFile.FieldType.int)) ∈ wAll := wA_14 (j := 42) rfl rfl
theorem k_14_37 : (Jvm.Cond.methodLink "StaveHouseModel" (1220 : Nat) ({ cls := "StaveHouseModel", name := "ofGreatThird", desc := "(II)I" } : Jvm.MethodName)) ∈ wAll := wA_14 (j := 37) rfl rfl
theorem k_14_38 : (Jvm.Cond.static ({ cls := "StaveHouseModel", name := "ofGreatThird", desc := "(II)I" } : Jvm.MethodName)) ∈ wAll := wA_14 (j := 38) rfl rfl
theorem k_14_39 : (Jvm.Cond.code ({ cls := "StaveHouseModel", name := "ofGreatThird", desc := "(II)I" } : Jvm.MethodName) prog_15_method_178_code (2 : Nat) (Option.some Jvm.ClassFile.FieldType.int)) ∈ wAll := wA_14 (j := 39) rfl rfl
theorem k_14_33 : (Jvm.Cond.methodLink "StaveHouseModel" (1217 : Nat) ({ cls := "StaveHouseModel", name := "above", desc := "(II)I" } : Jvm.MethodName)) ∈ wAll := wA_14 (j := 33) rfl rfl
theorem k_14_35 : (Jvm.Cond.instanceMethod ({ cls := "StaveHouseModel", name := "above", desc := "(II)I" } : Jvm.MethodName)) ∈ wAll := wA_14 (j := 35) rfl rfl
theorem ks_192 : (Jvm.Cond.selects "StaveHouseModel" ({ cls := "StaveHouseModel", name := "above", desc := "(II)I" } : Jvm.MethodName) ({ cls := "StaveHouseModel", name := "above", desc := "(II)I" } : Jvm.MethodName)) ∈ wAll := wA_s (j := 192) rfl rfl
theorem k_14_36 : (Jvm.Cond.code ({ cls := "StaveHouseModel", name := "above", desc := "(II)I" } : Jvm.MethodName) prog_15_method_176_code (3 : Nat) (Option.some Jvm.ClassFile.FieldType.int)) ∈ wAll := wA_14 (j := 36) rfl rfl
theorem k_12_161 : (Jvm.Cond.methodLink "StaveHouseModel" (784 : Nat) ({ cls := "StaveHouseModel", name := "inKey", desc := "(II)I" } : Jvm.MethodName)) ∈ wAll := wA_12 (j := 161) rfl rfl
theorem k_12_162 : (Jvm.Cond.static ({ cls := "StaveHouseModel", name := "inKey", desc := "(II)I" } : Jvm.MethodName)) ∈ wAll := wA_12 (j := 162) rfl rfl
theorem k_12_163 : (Jvm.Cond.code ({ cls := "StaveHouseModel", name := "inKey", desc := "(II)I" } : Jvm.MethodName) prog_15_method_18_code (4 : Nat) (Option.some Jvm.ClassFile.FieldType.int)) ∈ wAll := wA_12 (j := 163) rfl rfl
theorem W_prog_15_method_107_code_0 : chW prog_15_method_107_code 0 [42, 27, 28, 184, 3, 76, 133, 55, 4, 22, 4, 29, 133, 148, 158, 0, 30, 28, 4, 164, 0, 9, 20, 3, 79, 167, 0, 18, 20, 3, 81, 22, 4, 29, 133, 101] := chW_of (by decide +kernel)
theorem W_prog_15_method_107_code_32 : chW prog_15_method_107_code 32 [4, 29, 133, 101, 105, 22, 4, 29, 133, 101, 105, 173, 27, 28, 96, 42, 180, 2, 216, 160, 0, 7, 9, 167, 0, 14, 29, 133, 22, 4, 101, 29, 133, 22, 4, 101] := chW_of (by decide +kernel)
theorem W_prog_15_method_107_code_64 : chW prog_15_method_107_code 64 [133, 22, 4, 101, 105, 173] := chW_of (by decide +kernel)
theorem W_prog_15_method_113_code_0 : chW prog_15_method_113_code 0 [42, 43, 180, 2, 9, 28, 47, 43, 180, 2, 12, 28, 47, 43, 180, 2, 15, 28, 47, 43, 180, 2, 18, 28, 47, 182, 2, 21, 42, 180, 0, 9, 42, 180, 0, 13] := chW_of (by decide +kernel)
theorem W_prog_15_method_113_code_32 : chW prog_15_method_113_code 32 [42, 180, 0, 13, 184, 3, 117, 172] := chW_of (by decide +kernel)
theorem W_prog_15_method_18_code_0 : chW prog_15_method_18_code 0 [5, 27, 104, 16, 6, 100, 16, 7, 184, 1, 51, 61, 16, 6, 28, 100, 62, 26, 158, 0, 14, 28, 26, 162, 0, 7, 4, 167, 0, 4, 3, 172, 29, 26, 116, 162] := chW_of (by decide +kernel)
theorem W_prog_15_method_18_code_32 : chW prog_15_method_18_code 32 [29, 26, 116, 162, 0, 7, 2, 167, 0, 4, 3, 172] := chW_of (by decide +kernel)
theorem W_prog_15_method_118_code_0 : chW prog_15_method_118_code 0 [17, 3, 232, 28, 104, 29, 96, 54, 6, 21, 6, 54, 7, 43, 21, 7, 21, 4, 21, 5, 184, 3, 124, 153, 0, 9, 132, 7, 1, 167, 255, 240, 43, 180, 2, 9] := chW_of (by decide +kernel)
theorem W_prog_15_method_118_code_32 : chW prog_15_method_118_code 32 [43, 180, 2, 9, 21, 6, 47, 43, 180, 2, 12, 21, 6, 47, 184, 3, 117, 54, 8, 42, 43, 21, 7, 182, 3, 134, 21, 8, 100, 54, 9, 43, 180, 2, 72, 21] := chW_of (by decide +kernel)
theorem W_prog_15_method_118_code_64 : chW prog_15_method_118_code 64 [180, 2, 72, 21, 7, 46, 16, 8, 126, 158, 0, 7, 4, 167, 0, 4, 3, 54, 10, 21, 10, 154, 0, 30, 43, 180, 2, 72, 21, 7, 46, 16, 32, 126, 157, 0] := chW_of (by decide +kernel)
theorem d_15_118_26 : decode prog_15_method_118_code 26 = .ok (.iinc 7 1, 3) := D_132 W_prog_15_method_118_code_0 26 rfl rfl rfl
theorem W_prog_15_method_118_code_96 : chW prog_15_method_118_code 96 [32, 126, 157, 0, 13, 43, 180, 2, 137, 21, 7, 51, 153, 0, 7, 4, 167, 0, 4, 3, 54, 11, 21, 9, 5, 108, 4, 164, 0, 10, 21, 9, 5, 108, 167, 0] := chW_of (by decide +kernel)
theorem W_prog_15_method_118_code_128 : chW prog_15_method_118_code 128 [5, 108, 167, 0, 4, 4, 54, 12, 21, 11, 153, 0, 8, 21, 9, 167, 0, 21, 21, 10, 153, 0, 8, 21, 12, 167, 0, 11, 21, 9, 21, 9, 16, 8, 108, 100] := chW_of (by decide +kernel)
theorem W_prog_15_method_118_code_160 : chW prog_15_method_118_code 160 [16, 8, 108, 100, 54, 13, 21, 9, 158, 0, 30, 42, 21, 8, 21, 8, 21, 13, 96, 21, 4, 21, 5, 184, 2, 63, 42, 43, 21, 6, 182, 3, 137, 28, 29, 182] := chW_of (by decide +kernel)
theorem W_prog_15_method_118_code_192 : chW prog_15_method_118_code 192 [137, 28, 29, 182, 3, 140, 177] := chW_of (by decide +kernel)
theorem W_prog_15_method_129_code_0 : chW prog_15_method_129_code 0 [42, 27, 182, 3, 83, 77, 44, 198, 0, 10, 44, 180, 3, 147, 154, 0, 5, 2, 172, 42, 3, 181, 3, 193, 42, 19, 3, 201, 182, 3, 203, 42, 16, 6, 182, 3] := chW_of (by decide +kernel)
theorem W_prog_15_method_129_code_32 : chW prog_15_method_129_code 32 [16, 6, 182, 3, 206, 42, 3, 182, 3, 196, 42, 4, 182, 3, 196, 42, 3, 182, 3, 196, 42, 44, 180, 1, 48, 4, 96, 182, 3, 196, 42, 3, 182, 3, 196, 42] := chW_of (by decide +kernel)
theorem W_prog_15_method_129_code_64 : chW prog_15_method_129_code 64 [182, 3, 196, 42, 16, 96, 182, 3, 196, 42, 182, 3, 209, 62, 42, 3, 182, 3, 196, 42, 17, 0, 255, 182, 3, 196, 42, 16, 88, 182, 3, 196, 42, 7, 182, 3] := chW_of (by decide +kernel)
theorem W_prog_15_method_129_code_96 : chW prog_15_method_129_code 96 [42, 7, 182, 3, 196, 42, 44, 180, 1, 148, 182, 3, 196, 42, 44, 180, 1, 151, 5, 160, 0, 7, 4, 167, 0, 29, 44, 180, 1, 151, 7, 160, 0, 7, 5, 167] := chW_of (by decide +kernel)
theorem W_prog_15_method_129_code_128 : chW prog_15_method_129_code 128 [0, 7, 5, 167, 0, 17, 44, 180, 1, 151, 16, 8, 160, 0, 7, 6, 167, 0, 4, 7, 182, 3, 196, 42, 16, 24, 182, 3, 196, 42, 16, 8, 182, 3, 196, 42] := chW_of (by decide +kernel)
theorem W_prog_15_method_129_code_160 : chW prog_15_method_129_code 160 [182, 3, 196, 42, 3, 182, 3, 196, 42, 17, 0, 255, 182, 3, 196, 42, 16, 89, 182, 3, 196, 42, 5, 182, 3, 196, 42, 44, 180, 1, 54, 17, 0, 255, 126, 182] := chW_of (by decide +kernel)
theorem W_prog_15_method_129_code_192 : chW prog_15_method_129_code 192 [0, 255, 126, 182, 3, 196, 42, 44, 180, 1, 57, 153, 0, 7, 4, 167, 0, 4, 3, 182, 3, 196, 42, 3, 182, 3, 196, 42, 17, 0, 255, 182, 3, 196, 42, 16] := chW_of (by decide +kernel)
theorem W_prog_15_method_129_code_224 : chW prog_15_method_129_code 224 [3, 196, 42, 16, 81, 182, 3, 196, 42, 6, 182, 3, 196, 19, 3, 212, 44, 180, 1, 154, 108, 54, 4, 42, 21, 4, 16, 16, 122, 17, 0, 255, 126, 182, 3, 196] := chW_of (by decide +kernel)
theorem W_prog_15_method_129_code_256 : chW prog_15_method_129_code 256 [126, 182, 3, 196, 42, 21, 4, 16, 8, 122, 17, 0, 255, 126, 182, 3, 196, 42, 21, 4, 17, 0, 255, 126, 182, 3, 196, 42, 29, 182, 3, 213, 3, 54, 5, 21] := chW_of (by decide +kernel)
theorem W_prog_15_method_129_code_288 : chW prog_15_method_129_code 288 [3, 54, 5, 21, 5, 44, 180, 1, 48, 162, 0, 16, 42, 44, 21, 5, 182, 3, 216, 132, 5, 1, 167, 255, 237, 42, 180, 3, 193, 172] := chW_of (by decide +kernel)
theorem d_15_129_307 : decode prog_15_method_129_code 307 = .ok (.iinc 5 1, 3) := D_132 W_prog_15_method_129_code_288 19 rfl rfl rfl
theorem W_prog_15_method_137_code_0 : chW prog_15_method_137_code 0 [3, 61, 28, 43, 182, 1, 67, 162, 0, 41, 42, 182, 3, 235, 62, 42, 182, 1, 120, 153, 0, 23, 29, 43, 28, 182, 1, 73, 159, 0, 14, 42, 4, 42, 180, 3] := chW_of (by decide +kernel)
theorem W_prog_15_method_137_code_32 : chW prog_15_method_137_code 32 [4, 42, 180, 3, 227, 4, 100, 182, 3, 232, 132, 2, 1, 167, 255, 213, 177] := chW_of (by decide +kernel)
theorem d_15_137_42 : decode prog_15_method_137_code 42 = .ok (.iinc 2 1, 3) := D_132 W_prog_15_method_137_code_32 10 rfl rfl rfl
theorem W_prog_15_method_148_code_0 : chW prog_15_method_148_code 0 [42, 182, 4, 30, 60, 42, 182, 4, 24, 61, 42, 180, 3, 227, 62, 3, 54, 4, 21, 4, 28, 162, 0, 21, 42, 182, 1, 120, 153, 0, 14, 42, 182, 3, 235, 87] := chW_of (by decide +kernel)
theorem W_prog_15_method_148_code_32 : chW prog_15_method_148_code 32 [182, 3, 235, 87, 132, 4, 1, 167, 255, 235, 42, 182, 1, 120, 154, 0, 5, 3, 172, 28, 158, 0, 11, 42, 29, 182, 1, 80, 167, 0, 4, 3, 54, 4, 28, 4] := chW_of (by decide +kernel)
theorem d_15_148_36 : decode prog_15_method_148_code 36 = .ok (.iinc 4 1, 3) := D_132 W_prog_15_method_148_code_32 4 rfl rfl rfl
theorem W_prog_15_method_148_code_64 : chW prog_15_method_148_code 64 [54, 4, 28, 4, 164, 0, 13, 42, 29, 4, 96, 182, 1, 80, 167, 0, 4, 3, 54, 5, 27, 16, 88, 160, 0, 63, 28, 7, 161, 0, 58, 42, 180, 3, 246, 154] := chW_of (by decide +kernel)
theorem W_prog_15_method_148_code_96 : chW prog_15_method_148_code 96 [180, 3, 246, 154, 0, 51, 21, 4, 4, 161, 0, 45, 21, 4, 16, 12, 163, 0, 38, 21, 5, 4, 161, 0, 32, 21, 5, 7, 163, 0, 26, 42, 4, 181, 3, 246] := chW_of (by decide +kernel)
theorem W_prog_15_method_148_code_128 : chW prog_15_method_148_code 128 [4, 181, 3, 246, 42, 180, 0, 233, 7, 21, 4, 79, 42, 180, 0, 233, 8, 4, 21, 5, 120, 79, 27, 16, 89, 160, 0, 73, 28, 5, 161, 0, 68, 42, 180, 3] := chW_of (by decide +kernel)
theorem W_prog_15_method_148_code_160 : chW prog_15_method_148_code 160 [68, 42, 180, 3, 249, 154, 0, 61, 21, 4, 16, 7, 164, 0, 11, 21, 4, 17, 0, 249, 161, 0, 46, 21, 5, 4, 163, 0, 40, 42, 4, 181, 3, 249, 42, 180] := chW_of (by decide +kernel)
theorem W_prog_15_method_148_code_192 : chW prog_15_method_148_code 192 [3, 249, 42, 180, 0, 233, 5, 21, 4, 16, 7, 163, 0, 8, 21, 4, 167, 0, 9, 21, 4, 17, 1, 0, 100, 79, 42, 180, 0, 233, 6, 21, 5, 79, 27, 16] := chW_of (by decide +kernel)
theorem W_prog_15_method_148_code_224 : chW prog_15_method_148_code 224 [5, 79, 27, 16, 81, 160, 0, 95, 28, 6, 160, 0, 90, 42, 180, 3, 252, 154, 0, 83, 42, 4, 181, 3, 252, 21, 4, 16, 16, 120, 21, 5, 16, 8, 120, 128] := chW_of (by decide +kernel)
theorem W_prog_15_method_148_code_256 : chW prog_15_method_148_code 256 [16, 8, 120, 128, 42, 29, 5, 96, 182, 1, 80, 128, 54, 6, 21, 6, 154, 0, 9, 17, 1, 44, 167, 0, 9, 19, 3, 212, 21, 6, 108, 54, 7, 42, 180, 0] := chW_of (by decide +kernel)
theorem W_prog_15_method_148_code_288 : chW prog_15_method_148_code 288 [7, 42, 180, 0, 233, 16, 6, 21, 7, 16, 20, 162, 0, 8, 16, 20, 167, 0, 19, 21, 7, 17, 1, 44, 164, 0, 9, 17, 1, 44, 167, 0, 5, 21, 7, 79] := chW_of (by decide +kernel)
theorem W_prog_15_method_148_code_320 : chW prog_15_method_148_code 320 [5, 21, 7, 79, 27, 16, 47, 160, 0, 7, 4, 167, 0, 4, 3, 172] := chW_of (by decide +kernel)
theorem W_prog_15_method_156_code_0 : chW prog_15_method_156_code 0 [17, 3, 232, 27, 104, 42, 180, 0, 44, 180, 2, 3, 27, 46, 96, 54, 6, 42, 180, 0, 44, 180, 2, 3, 27, 92, 46, 4, 96, 79, 42, 32, 21, 4, 133, 182] := chW_of (by decide +kernel)
theorem W_prog_15_method_156_code_32 : chW prog_15_method_156_code 32 [21, 4, 133, 182, 0, 16, 42, 180, 0, 44, 180, 2, 15, 21, 6, 42, 180, 0, 9, 80, 42, 180, 0, 44, 180, 2, 18, 21, 6, 42, 180, 0, 13, 80, 42, 180] := chW_of (by decide +kernel)
theorem W_prog_15_method_156_code_64 : chW prog_15_method_156_code 64 [13, 80, 42, 180, 0, 44, 180, 2, 72, 21, 6, 3, 79, 42, 180, 0, 44, 180, 2, 89, 21, 6, 3, 79, 42, 180, 0, 44, 180, 2, 86, 21, 6, 3, 79, 3] := chW_of (by decide +kernel)
theorem W_prog_15_method_156_code_96 : chW prog_15_method_156_code 96 [6, 3, 79, 3, 54, 7, 21, 7, 21, 5, 162, 0, 22, 42, 21, 6, 42, 180, 1, 22, 21, 7, 46, 182, 4, 64, 132, 7, 1, 167, 255, 233, 177] := chW_of (by decide +kernel)
theorem W_prog_15_method_156_code_128 : chW prog_15_method_156_code 128 [177] := chW_of (by decide +kernel)
theorem d_15_156_122 : decode prog_15_method_156_code 122 = .ok (.iinc 7 1, 3) := D_132 W_prog_15_method_156_code_96 26 rfl rfl rfl
theorem W_prog_15_method_79_code_0 : chW prog_15_method_79_code 0 [32, 9, 148, 153, 0, 22, 32, 22, 4, 43, 180, 1, 148, 133, 43, 180, 1, 151, 133, 184, 2, 25, 154, 0, 6, 16, 9, 172, 43, 180, 1, 148, 5, 112, 154, 0] := chW_of (by decide +kernel)
theorem W_prog_15_method_79_code_32 : chW prog_15_method_79_code 32 [5, 112, 154, 0, 29, 32, 22, 4, 43, 180, 1, 148, 133, 20, 2, 159, 43, 180, 1, 151, 133, 105, 184, 2, 25, 154, 0, 6, 16, 8, 172, 32, 22, 4, 43, 184] := chW_of (by decide +kernel)
theorem W_prog_15_method_79_code_64 : chW prog_15_method_79_code 64 [22, 4, 43, 184, 2, 161, 133, 43, 180, 1, 151, 133, 184, 2, 56, 153, 0, 6, 16, 7, 172, 16, 6, 54, 6, 43, 180, 1, 151, 133, 55, 7, 21, 6, 4, 164] := chW_of (by decide +kernel)
theorem W_prog_15_method_79_code_96 : chW prog_15_method_79_code 96 [21, 6, 4, 164, 0, 32, 32, 22, 4, 10, 22, 7, 184, 2, 56, 153, 0, 6, 21, 6, 172, 132, 6, 255, 22, 7, 20, 2, 159, 105, 55, 7, 167, 255, 224, 4] := chW_of (by decide +kernel)
theorem W_prog_15_method_79_code_128 : chW prog_15_method_79_code 128 [167, 255, 224, 4, 172] := chW_of (by decide +kernel)
theorem d_15_79_117 : decode prog_15_method_79_code 117 = .ok (.iinc 6 (-1), 3) := D_132 W_prog_15_method_79_code_96 21 rfl rfl rfl
theorem W_prog_15_method_167_code_0 : chW prog_15_method_167_code 0 [3, 62, 3, 54, 4, 21, 4, 43, 180, 3, 150, 162, 0, 144, 43, 180, 3, 151, 21, 4, 46, 133, 20, 4, 126, 105, 43, 180, 1, 154, 133, 109, 136, 54, 5, 43] := chW_of (by decide +kernel)
theorem W_prog_15_method_167_code_128 : chW prog_15_method_167_code 128 [21, 5, 100, 184, 4, 134, 104, 43, 180, 3, 155, 21, 4, 46, 104, 17, 4, 0, 108, 96, 62, 132, 4, 1, 167, 255, 109, 29, 17, 128, 0, 17, 127, 255, 184, 4] := chW_of (by decide +kernel)
theorem W_prog_15_method_167_code_160 : chW prog_15_method_167_code 160 [127, 255, 184, 4, 137, 172] := chW_of (by decide +kernel)
theorem W_prog_15_method_167_code_32 : chW prog_15_method_167_code 32 [136, 54, 5, 43, 180, 3, 152, 21, 4, 46, 133, 20, 4, 126, 105, 43, 180, 1, 154, 133, 109, 136, 54, 6, 28, 21, 5, 161, 0, 90, 28, 21, 6, 17, 1, 143] := chW_of (by decide +kernel)
theorem W_prog_15_method_167_code_64 : chW prog_15_method_167_code 64 [6, 17, 1, 143, 96, 164, 0, 6, 167, 0, 77, 28, 21, 5, 100, 54, 7, 21, 7, 133, 42, 43, 180, 3, 153, 21, 4, 46, 182, 4, 128, 105, 20, 4, 97, 127] := chW_of (by decide +kernel)
theorem W_prog_15_method_167_code_96 : chW prog_15_method_167_code 96 [20, 4, 97, 127, 55, 8, 29, 43, 180, 1, 198, 43, 180, 3, 158, 21, 4, 46, 46, 22, 8, 16, 24, 123, 136, 184, 4, 131, 21, 7, 21, 6, 21, 5, 100, 184] := chW_of (by decide +kernel)
theorem d_15_167_149 : decode prog_15_method_167_code 149 = .ok (.iinc 4 1, 3) := D_132 W_prog_15_method_167_code_128 21 rfl rfl rfl
theorem W_prog_15_method_177_code_0 : chW prog_15_method_177_code 0 [2, 61, 2, 62, 2, 54, 4, 3, 54, 5, 21, 5, 42, 180, 4, 167, 162, 0, 101, 21, 5, 27, 160, 0, 6, 167, 0, 86, 42, 180, 1, 31, 21, 5, 46, 42] := chW_of (by decide +kernel)
theorem W_prog_15_method_177_code_96 : chW prog_15_method_177_code 96 [15, 21, 4, 156, 0, 10, 21, 7, 54, 4, 167, 0, 5, 2, 172, 132, 5, 1, 167, 255, 152, 28, 7, 160, 0, 12, 29, 21, 4, 184, 4, 196, 167, 0, 18, 28] := chW_of (by decide +kernel)
theorem W_prog_15_method_177_code_128 : chW prog_15_method_177_code 128 [167, 0, 18, 28, 6, 160, 0, 12, 29, 21, 4, 184, 4, 199, 167, 0, 4, 2, 172] := chW_of (by decide +kernel)
theorem W_prog_15_method_177_code_32 : chW prog_15_method_177_code 32 [21, 5, 46, 42, 180, 1, 31, 27, 46, 100, 16, 7, 184, 1, 51, 54, 6, 42, 27, 21, 5, 182, 4, 193, 54, 7, 21, 6, 5, 160, 0, 13, 28, 156, 0, 9] := chW_of (by decide +kernel)
theorem W_prog_15_method_177_code_64 : chW prog_15_method_177_code 64 [28, 156, 0, 9, 21, 7, 61, 167, 0, 40, 21, 6, 7, 160, 0, 13, 29, 156, 0, 9, 21, 7, 62, 167, 0, 24, 21, 6, 16, 6, 160, 0, 15, 21, 4, 156] := chW_of (by decide +kernel)
theorem d_15_177_111 : decode prog_15_method_177_code 111 = .ok (.iinc 5 1, 3) := D_132 W_prog_15_method_177_code_96 15 rfl rfl rfl
theorem W_prog_15_method_180_code_0 : chW prog_15_method_180_code 0 [3, 61, 3, 62, 29, 42, 180, 4, 167, 162, 0, 41, 28, 154, 0, 25, 43, 180, 1, 54, 42, 180, 1, 31, 29, 46, 184, 3, 16, 42, 180, 1, 34, 29, 46, 159] := chW_of (by decide +kernel)
theorem W_prog_15_method_180_code_32 : chW prog_15_method_180_code 32 [34, 29, 46, 159, 0, 7, 4, 167, 0, 4, 3, 61, 132, 3, 1, 167, 255, 213, 28, 172] := chW_of (by decide +kernel)
theorem d_15_180_44 : decode prog_15_method_180_code 44 = .ok (.iinc 3 1, 3) := D_132 W_prog_15_method_180_code_32 12 rfl rfl rfl
abbrev Q_M_price (D : va_G) (ca : Nat → ClassId) (ad : Nat → Int → Nat → Nat) (L : List Nat) (r : Int) (F : zF) (B : zB) (A : Nat → Prop) : Array Value → State → Outcome → State → Prop := va_Ql (S := Unit) (fun p _ => p = lI r) (fun _ => zPo D ca ad lnM nM L F B A) A
def f_M_price_69 (K : Nat) (s0 : Int) (F : zF) (B : zB) : zO := some (s0, F, B)
set_option maxHeartbeats 4000000 in
set_option maxRecDepth 100000 in
theorem b_M_price_69 {D : va_G} {ca : Nat → ClassId} {ad : Nat → Int → Nat → Nat} {L : List Nat} {aS vS : Nat → Nat} {A : Nat → Prop} {p : Program} {l : Launch} {e : Env} {s : State} {m : MethodId} {args : Array Value} {below : List Frame} {meth : Method} {c : Code} {K : Nat} {r : Int} {F9 : zF} {B9 : zB} (X : zX D ca L aS vS A p s m args meth c prog_15_method_107_code 6 (Option.some Jvm.ClassFile.FieldType.long) "StaveHouseModel") {s0 : Int} {F : zF} {B : zB} {H : Heap} {locs : List Loc} {ls : Array Slot} (hf : f_M_price_69 K s0 F B = some (r, F9, B9)) (hZ : zH D ca ad lnM nM L F B A H) (hS : va_S A s.heap H locs) (hl : lv_has ls 6 []) : W p l e ({ frames := 2, cells := 0, slots := 0, locals := 45 } : Room) s m args below meth c H locs 0 0 (MQ below (Q_M_price D ca ad L r F9 B9 A) args s 0 0 A) (F0 m 69 ls [.long (lI s0)]) := by
  obtain ⟨hx, hb, hr, hml, hown, hts, hlk, hK, hA, hL, hX⟩ := id X
  replace hf : (some (s0, F, B)) = some (r, F9, B9) := hf
  cases hf
  exact W.lret hx hb hr (fun t ht hW => ⟨⟨_, (), rfl, rfl, by rw [ht]; exact hZ, va_K.moved hW.alike hK⟩, hS.F ht⟩) hS.2.2 (D_173 W_prog_15_method_107_code_64 5 rfl rfl) hlk

def f_M_price_43 (K : Nat) (s0 : Int) (F : zF) (B : zB) : zO := some (s0, F, B)
set_option maxHeartbeats 4000000 in
set_option maxRecDepth 100000 in
theorem b_M_price_43 {D : va_G} {ca : Nat → ClassId} {ad : Nat → Int → Nat → Nat} {L : List Nat} {aS vS : Nat → Nat} {A : Nat → Prop} {p : Program} {l : Launch} {e : Env} {s : State} {m : MethodId} {args : Array Value} {below : List Frame} {meth : Method} {c : Code} {K : Nat} {r : Int} {F9 : zF} {B9 : zB} (X : zX D ca L aS vS A p s m args meth c prog_15_method_107_code 6 (Option.some Jvm.ClassFile.FieldType.long) "StaveHouseModel") {s0 : Int} {F : zF} {B : zB} {H : Heap} {locs : List Loc} {ls : Array Slot} (hf : f_M_price_43 K s0 F B = some (r, F9, B9)) (hZ : zH D ca ad lnM nM L F B A H) (hS : va_S A s.heap H locs) (hl : lv_has ls 6 []) : W p l e ({ frames := 2, cells := 0, slots := 0, locals := 45 } : Room) s m args below meth c H locs 0 0 (MQ below (Q_M_price D ca ad L r F9 B9 A) args s 0 0 A) (F0 m 43 ls [.long (lI s0)]) := by
  obtain ⟨hx, hb, hr, hml, hown, hts, hlk, hK, hA, hL, hX⟩ := id X
  replace hf : (some (s0, F, B)) = some (r, F9, B9) := hf
  cases hf
  exact W.lret hx hb hr (fun t ht hW => ⟨⟨_, (), rfl, rfl, by rw [ht]; exact hZ, va_K.moved hW.alike hK⟩, hS.F ht⟩) hS.2.2 (D_173 W_prog_15_method_107_code_32 11 rfl rfl) hlk

def f_M_price (K : Nat) (l0 : Int) (l1 : Int) (l2 : Int) (l3 : Int) (F : zF) (B : zB) : zO := zbind (f_M_lineWide K l0 l1 l2 F B) (fun r1 F1 B1 => if r32 r1 then if r32 l3 then if r64 r1 then if r64 l3 then (if (zcmp r1 l3) ≤ 0 then if 0 ≤ l0 ∧ l0 < 3 then if r32 (l1 + l2) then if r32 (F1 13 l0 7) then (if (l1 + l2) = (F1 13 l0 7) then f_M_price_69 K 0 F1 B1 else f_M_price_69 K ((l3 - r1) * (l3 - r1)) F1 B1) else none else none else none else if r32 l2 then (if l2 ≤ 1 then f_M_price_43 K ((4 * (r1 - l3)) * (r1 - l3)) F1 B1 else f_M_price_43 K (-1) F1 B1) else none) else none else none else none else none)
set_option maxHeartbeats 4000000 in
set_option maxRecDepth 100000 in
theorem c_M_price {l : Launch} {D : va_G} {ca : Nat → ClassId} {ad : Nat → Int → Nat → Nat} {L : List Nat} {aS vS : Nat → Nat} {sz K : Nat}  {l0 : Int} {l1 : Int} {l2 : Int} {l3 : Int} {F F9 : zF} {B B9 : zB} {r : Int} (hf : f_M_price K l0 l1 l2 l3 F B = some (r, F9, B9)) : Met l ({ cls := "StaveHouseModel", name := "price", desc := "(LStaveHouseModel$Piece;III)J" } : Jvm.MethodName) (Cond.code ({ cls := "StaveHouseModel", name := "price", desc := "(LStaveHouseModel$Piece;III)J" } : Jvm.MethodName) prog_15_method_107_code 6 (Option.some Jvm.ClassFile.FieldType.long) :: wAll) ({ frames := 2, cells := 0, slots := 0, locals := 45 } : Room) (va_Pc [.ref (ad 13 l0 0), .int (iI l1), .int (iI l2), .int (iI l3)] (zPre D ca ad lnM nM L aS vS F B sz)) (Q_M_price D ca ad L r F9 B9 (zA L sz)) 0 0 (zA L sz) := by
  refine zMet (Qc := Q_M_price D ca ad L r F9 B9) (lv := [(0, .ref (ad 13 l0 0)), (1, .int (iI l1)), (2, .int (iI l2)), (3, .int (iI l3))]) (by decide) (Nat.le_of_ble_eq_true rfl) rfl (fun A p e s m below meth c ls X hZ hS hl => ?_)
  obtain ⟨hx, hb, hr, hml, hown, hts, hlk, hK, hA, hL, hX⟩ := id X
  replace hf : (zbind (f_M_lineWide K l0 l1 l2 F B) (fun r1 F1 B1 => if r32 r1 then if r32 l3 then if r64 r1 then if r64 l3 then (if (zcmp r1 l3) ≤ 0 then if 0 ≤ l0 ∧ l0 < 3 then if r32 (l1 + l2) then if r32 (F1 13 l0 7) then (if (l1 + l2) = (F1 13 l0 7) then f_M_price_69 K 0 F1 B1 else f_M_price_69 K ((l3 - r1) * (l3 - r1)) F1 B1) else none else none else none else if r32 l2 then (if l2 ≤ 1 then f_M_price_43 K ((4 * (r1 - l3)) * (r1 - l3)) F1 B1 else f_M_price_43 K (-1) F1 B1) else none) else none else none else none else none)) = some (r, F9, B9) := hf
  refine lv_aload_n hx hb (D_42 W_prog_15_method_107_code_0 0 rfl rfl) rfl (lv_at hl 0 rfl) ?_
  refine lv_iload_n hx hb (D_27 W_prog_15_method_107_code_0 1 rfl rfl) rfl (lv_at hl 1 rfl) ?_
  refine lv_iload_n hx hb (D_28 W_prog_15_method_107_code_0 2 rfl rfl) rfl (lv_at hl 2 rfl) ?_
  obtain ⟨r1, F1, B1, hc1, hf⟩ := gbind hf
  refine va_calli (va_runS (As := [.ref (ad 13 l0 0), .int (iI l1), .int (iI l2)]) (rest := []) ⟨hx, hb, hml, hown, hts⟩ (c_M_lineWide (l := l) hc1) (va_cwS 3 hts (gdS k_12_99 k_12_100 k_1_9 k_12_101) rfl rfl rfl (by decide +kernel) ⟨Nat.le_of_ble_eq_true rfl, Nat.le_of_ble_eq_true rfl⟩) (zPS X hZ hS [.ref (ad 13 l0 0), .int (iI l1), .int (iI l2)]) rfl rfl hl.1 rfl (lv_room (Nat.le_of_ble_eq_true rfl)) (D_184 W_prog_15_method_107_code_0 3 rfl rfl rfl) ⟨Nat.le_of_ble_eq_true rfl, Nat.le_of_ble_eq_true rfl⟩) hS (fun q _ h => zAin X hS q h) (zAin X hS) (fun p1 u1 t1 H1 locs1 ht1 hv1 hw1 hB1 hz1 hk1 hS1 => ?_)
  have hZ1 := zBack X ht1 hB1
  subst hw1
  obtain ⟨g2, hf⟩ := gif hf
  refine zi2l hx hb g2 (D_133 W_prog_15_method_107_code_0 6 rfl rfl) ?_
  refine lv_lstore (lv' := [(4, .long (lI r1)), (0, .ref (ad 13 l0 0)), (1, .int (iI l1)), (2, .int (iI l2)), (3, .int (iI l3))]) hx hb (D_55 W_prog_15_method_107_code_0 7 rfl rfl) hl (by decide) rfl (fun ls hl => ?_)
  refine lv_lload hx hb (D_22 W_prog_15_method_107_code_0 9 rfl rfl) (lv_at hl 0 rfl) ?_
  refine lv_iload_n hx hb (D_29 W_prog_15_method_107_code_0 11 rfl rfl) rfl (lv_at hl 4 rfl) ?_
  obtain ⟨g3, hf⟩ := gif hf
  refine zi2l hx hb g3 (D_133 W_prog_15_method_107_code_0 12 rfl rfl) ?_
  obtain ⟨g4, hf⟩ := gif hf
  obtain ⟨g5, hf⟩ := gif hf
  refine zcmp_r hx hb g4 g5 (D_148 W_prog_15_method_107_code_0 13 rfl rfl) ?_
  refine z0le (tgt := 44) hx hb zcmp_32 (D_158 W_prog_15_method_107_code_0 14 rfl rfl rfl) (by decide) (fun h6 => ?_) (fun h6 => ?_)
  · replace hf := gpos hf h6
    refine lv_iload_n hx hb (D_27 W_prog_15_method_107_code_32 12 rfl rfl) rfl (lv_at hl 2 rfl) ?_
    refine lv_iload_n hx hb (D_28 W_prog_15_method_107_code_32 13 rfl rfl) rfl (lv_at hl 3 rfl) ?_
    refine zadd hx hb (D_96 W_prog_15_method_107_code_32 14 rfl rfl) ?_
    refine lv_aload_n hx hb (D_42 W_prog_15_method_107_code_32 15 rfl rfl) rfl (lv_at hl 1 rfl) ?_
    obtain ⟨g7, hf⟩ := gif hf
    refine zget (ci := 13) (C := RX13) (T := TX13) (v := .int (iI (F1 13 l0 7))) (k := 7) hx hb hts inW_13 hown hK hZ1 g7.1 g7.2 rfl (by decide) k_9_132 rfl (D_180 W_prog_15_method_107_code_32 16 rfl rfl rfl) ?_
    obtain ⟨g8, hf⟩ := gif hf
    obtain ⟨g9, hf⟩ := gif hf
    refine zne (tgt := 58) hx hb g8 g9 (D_160 W_prog_15_method_107_code_32 19 rfl rfl rfl) (by decide) (fun h10 => ?_) (fun h10 => ?_)
    · replace hf := gneg hf h10
      refine lv_iload_n hx hb (D_29 W_prog_15_method_107_code_32 26 rfl rfl) rfl (lv_at hl 4 rfl) ?_
      refine zi2l hx hb g3 (D_133 W_prog_15_method_107_code_32 27 rfl rfl) ?_
      refine lv_lload hx hb (D_22 W_prog_15_method_107_code_32 28 rfl rfl) (lv_at hl 0 rfl) ?_
      refine zlsub hx hb (D_101 W_prog_15_method_107_code_32 30 rfl rfl) ?_
      refine lv_iload_n hx hb (D_29 W_prog_15_method_107_code_32 31 rfl rfl) rfl (lv_at hl 4 rfl) ?_
      refine zi2l hx hb g3 (D_133 W_prog_15_method_107_code_64 0 rfl rfl) ?_
      refine lv_lload hx hb (D_22 W_prog_15_method_107_code_64 1 rfl rfl) (lv_at hl 0 rfl) ?_
      refine zlsub hx hb (D_101 W_prog_15_method_107_code_64 3 rfl rfl) ?_
      refine zlmul hx hb (D_105 W_prog_15_method_107_code_64 4 rfl rfl) ?_
      exact b_M_price_69 X hf hZ1 hS1 (lv_sub hl [] rfl)
    · replace hf := gpos hf h10
      refine lv_lconst (v := lI 0) hx hb (D_9 W_prog_15_method_107_code_32 22 rfl rfl) (by decide) ?_
      refine lv_goto (tgt := 69) hx hb (D_167 W_prog_15_method_107_code_32 23 rfl rfl rfl) (by decide) ?_
      exact b_M_price_69 X hf hZ1 hS1 (lv_sub hl [] rfl)
  · replace hf := gneg hf h6
    refine lv_iload_n hx hb (D_28 W_prog_15_method_107_code_0 17 rfl rfl) rfl (lv_at hl 3 rfl) ?_
    refine lv_iconst (v := iI 1) hx hb (D_4 W_prog_15_method_107_code_0 18 rfl rfl) rfl ?_
    obtain ⟨g11, hf⟩ := gif hf
    refine zle (tgt := 28) hx hb g11 (by decide) (D_164 W_prog_15_method_107_code_0 19 rfl rfl rfl) (by decide) (fun h12 => ?_) (fun h12 => ?_)
    · replace hf := gpos hf h12
      refine lv_ldc2 hx hb hown (hts _ k_12_106) (D_20 W_prog_15_method_107_code_0 28 rfl rfl rfl) ?_
      refine W.eq (g2 := F0 m 31 ls [.long (lI 4)]) rfl ?_
      refine lv_lload hx hb (D_22 W_prog_15_method_107_code_0 31 rfl rfl) (lv_at hl 0 rfl) ?_
      refine lv_iload_n hx hb (D_29 W_prog_15_method_107_code_32 1 rfl rfl) rfl (lv_at hl 4 rfl) ?_
      refine zi2l hx hb g3 (D_133 W_prog_15_method_107_code_32 2 rfl rfl) ?_
      refine zlsub hx hb (D_101 W_prog_15_method_107_code_32 3 rfl rfl) ?_
      refine zlmul hx hb (D_105 W_prog_15_method_107_code_32 4 rfl rfl) ?_
      refine lv_lload hx hb (D_22 W_prog_15_method_107_code_32 5 rfl rfl) (lv_at hl 0 rfl) ?_
      refine lv_iload_n hx hb (D_29 W_prog_15_method_107_code_32 7 rfl rfl) rfl (lv_at hl 4 rfl) ?_
      refine zi2l hx hb g3 (D_133 W_prog_15_method_107_code_32 8 rfl rfl) ?_
      refine zlsub hx hb (D_101 W_prog_15_method_107_code_32 9 rfl rfl) ?_
      refine zlmul hx hb (D_105 W_prog_15_method_107_code_32 10 rfl rfl) ?_
      exact b_M_price_43 X hf hZ1 hS1 (lv_sub hl [] rfl)
    · replace hf := gneg hf h12
      refine lv_ldc2 hx hb hown (hts _ k_12_105) (D_20 W_prog_15_method_107_code_0 22 rfl rfl rfl) ?_
      refine W.eq (g2 := F0 m 25 ls [.long (lI (-1))]) rfl ?_
      refine lv_goto (tgt := 43) hx hb (D_167 W_prog_15_method_107_code_0 25 rfl rfl rfl) (by decide) ?_
      exact b_M_price_43 X hf hZ1 hS1 (lv_sub hl [] rfl)

abbrev Q_M_endTick (D : va_G) (ca : Nat → ClassId) (ad : Nat → Int → Nat → Nat) (L : List Nat) (r : Int) (F : zF) (B : zB) (A : Nat → Prop) : Array Value → State → Outcome → State → Prop := va_Qi (S := Unit) (fun p _ => p = iI r) (fun _ => zPo D ca ad lnM nM L F B A) A
def f_M_endTick (K : Nat) (l1 : Int) (l2 : Int) (F : zF) (B : zB) : zO := if 0 ≤ l1 ∧ l1 < 3 then if 0 ≤ l2 ∧ l2 < 4000 then zbind (f_M_plus K (B 13 l1 14 l2) (B 13 l1 15 l2) (B 13 l1 16 l2) (B 13 l1 17 l2) F B) (fun r3 F3 B3 => zbind (f_M_tick K (F3 14 0 0) (F3 14 0 1) F3 B3) (fun r4 F4 B4 => some (r4, F4, B4))) else none else none
set_option maxHeartbeats 4000000 in
set_option maxRecDepth 100000 in
theorem c_M_endTick {l : Launch} {D : va_G} {ca : Nat → ClassId} {ad : Nat → Int → Nat → Nat} {L : List Nat} {aS vS : Nat → Nat} {sz K : Nat}  {l1 : Int} {l2 : Int} {F F9 : zF} {B B9 : zB} {r : Int} (hf : f_M_endTick K l1 l2 F B = some (r, F9, B9)) : Met l ({ cls := "StaveHouseModel", name := "endTick", desc := "(LStaveHouseModel$Piece;I)I" } : Jvm.MethodName) (Cond.code ({ cls := "StaveHouseModel", name := "endTick", desc := "(LStaveHouseModel$Piece;I)I" } : Jvm.MethodName) prog_15_method_113_code 3 (Option.some Jvm.ClassFile.FieldType.int) :: wAll) ({ frames := 3, cells := 0, slots := 0, locals := 85 } : Room) (va_Pc [.ref (ad 14 0 0), .ref (ad 13 l1 0), .int (iI l2)] (zPre D ca ad lnM nM L aS vS F B sz)) (Q_M_endTick D ca ad L r F9 B9 (zA L sz)) 0 0 (zA L sz) := by
  refine zMet (Qc := Q_M_endTick D ca ad L r F9 B9) (lv := [(0, .ref (ad 14 0 0)), (1, .ref (ad 13 l1 0)), (2, .int (iI l2))]) (by decide) (Nat.le_of_ble_eq_true rfl) rfl (fun A p e s m below meth c ls X hZ hS hl => ?_)
  obtain ⟨hx, hb, hr, hml, hown, hts, hlk, hK, hA, hL, hX⟩ := id X
  replace hf : (if 0 ≤ l1 ∧ l1 < 3 then if 0 ≤ l2 ∧ l2 < 4000 then zbind (f_M_plus K (B 13 l1 14 l2) (B 13 l1 15 l2) (B 13 l1 16 l2) (B 13 l1 17 l2) F B) (fun r3 F3 B3 => zbind (f_M_tick K (F3 14 0 0) (F3 14 0 1) F3 B3) (fun r4 F4 B4 => some (r4, F4, B4))) else none else none) = some (r, F9, B9) := hf
  refine lv_aload_n hx hb (D_42 W_prog_15_method_113_code_0 0 rfl rfl) rfl (lv_at hl 0 rfl) ?_
  refine lv_aload_n hx hb (D_43 W_prog_15_method_113_code_0 1 rfl rfl) rfl (lv_at hl 1 rfl) ?_
  obtain ⟨g1, hf⟩ := gif hf
  refine zget (ci := 13) (C := RX13) (T := TX13) (v := .ref (ad 13 l1 (14 + 1))) (k := 14) hx hb hts inW_13 hown hK hZ g1.1 g1.2 rfl (by decide) k_9_146 rfl (D_180 W_prog_15_method_113_code_0 2 rfl rfl rfl) ?_
  refine lv_iload_n hx hb (D_28 W_prog_15_method_113_code_0 5 rfl rfl) rfl (lv_at hl 2 rfl) ?_
  obtain ⟨g2, hf⟩ := gif hf
  refine zlald (ci := 13) (k := 14) hx hb hK rfl hZ g1.1 g1.2 rfl (Nat.le_of_ble_eq_true rfl) g2.1 g2.2 (D_47 W_prog_15_method_113_code_0 6 rfl rfl) ?_
  refine lv_aload_n hx hb (D_43 W_prog_15_method_113_code_0 7 rfl rfl) rfl (lv_at hl 1 rfl) ?_
  refine zget (ci := 13) (C := RX13) (T := TX13) (v := .ref (ad 13 l1 (15 + 1))) (k := 15) hx hb hts inW_13 hown hK hZ g1.1 g1.2 rfl (by decide) k_9_148 rfl (D_180 W_prog_15_method_113_code_0 8 rfl rfl rfl) ?_
  refine lv_iload_n hx hb (D_28 W_prog_15_method_113_code_0 11 rfl rfl) rfl (lv_at hl 2 rfl) ?_
  refine zlald (ci := 13) (k := 15) hx hb hK rfl hZ g1.1 g1.2 rfl (Nat.le_of_ble_eq_true rfl) g2.1 g2.2 (D_47 W_prog_15_method_113_code_0 12 rfl rfl) ?_
  refine lv_aload_n hx hb (D_43 W_prog_15_method_113_code_0 13 rfl rfl) rfl (lv_at hl 1 rfl) ?_
  refine zget (ci := 13) (C := RX13) (T := TX13) (v := .ref (ad 13 l1 (16 + 1))) (k := 16) hx hb hts inW_13 hown hK hZ g1.1 g1.2 rfl (by decide) k_9_150 rfl (D_180 W_prog_15_method_113_code_0 14 rfl rfl rfl) ?_
  refine lv_iload_n hx hb (D_28 W_prog_15_method_113_code_0 17 rfl rfl) rfl (lv_at hl 2 rfl) ?_
  refine zlald (ci := 13) (k := 16) hx hb hK rfl hZ g1.1 g1.2 rfl (Nat.le_of_ble_eq_true rfl) g2.1 g2.2 (D_47 W_prog_15_method_113_code_0 18 rfl rfl) ?_
  refine lv_aload_n hx hb (D_43 W_prog_15_method_113_code_0 19 rfl rfl) rfl (lv_at hl 1 rfl) ?_
  refine zget (ci := 13) (C := RX13) (T := TX13) (v := .ref (ad 13 l1 (17 + 1))) (k := 17) hx hb hts inW_13 hown hK hZ g1.1 g1.2 rfl (by decide) k_9_152 rfl (D_180 W_prog_15_method_113_code_0 20 rfl rfl rfl) ?_
  refine lv_iload_n hx hb (D_28 W_prog_15_method_113_code_0 23 rfl rfl) rfl (lv_at hl 2 rfl) ?_
  refine zlald (ci := 13) (k := 17) hx hb hK rfl hZ g1.1 g1.2 rfl (Nat.le_of_ble_eq_true rfl) g2.1 g2.2 (D_47 W_prog_15_method_113_code_0 24 rfl rfl) ?_
  obtain ⟨r3, F3, B3, hc3, hf⟩ := gbind hf
  refine va_callv (va_runV (As := [.long (lI (B 13 l1 14 l2)), .long (lI (B 13 l1 15 l2)), .long (lI (B 13 l1 16 l2)), .long (lI (B 13 l1 17 l2))]) (rest := []) ⟨hx, hb, hml, hown, hts⟩ (c_M_plus (l := l) hc3) (cwV 4 hts (gdV k_12_147 k_12_149 ks_135 k_1_9 k_12_150) rfl rfl rfl (by decide +kernel) ⟨Nat.le_of_ble_eq_true rfl, Nat.le_of_ble_eq_true rfl⟩) (zPV X hZ hS (ci := 14) (by decide) (by decide) (r := (RX14, TX14, 107)) rfl [.long (lI (B 13 l1 14 l2)), .long (lI (B 13 l1 15 l2)), .long (lI (B 13 l1 16 l2)), .long (lI (B 13 l1 17 l2))]) rfl rfl hl.1 rfl (lv_room (Nat.le_of_ble_eq_true rfl)) (D_182 W_prog_15_method_113_code_0 25 rfl rfl rfl) ⟨Nat.le_of_ble_eq_true rfl, Nat.le_of_ble_eq_true rfl⟩) hS (fun q _ h => zAin X hS q h) (zAin X hS) (fun u3 t3 H3 locs3 ht3 hv3 hw3 hB3 hz3 hk3 hS3 => ?_)
  have hZ3 := zBack X ht3 hB3
  refine lv_aload_n hx hb (D_42 W_prog_15_method_113_code_0 28 rfl rfl) rfl (lv_at hl 0 rfl) ?_
  refine zget (ci := 14) (C := RX14) (T := TX14) (v := .long (lI (F3 14 0 0))) (k := 0) hx hb hts inW_14 hown hK hZ3 (by decide) (by decide) rfl (by decide) k_10_238 rfl (D_180 W_prog_15_method_113_code_0 29 rfl rfl rfl) ?_
  refine lv_aload_n hx hb (D_42 W_prog_15_method_113_code_32 0 rfl rfl) rfl (lv_at hl 0 rfl) ?_
  refine zget (ci := 14) (C := RX14) (T := TX14) (v := .long (lI (F3 14 0 1))) (k := 1) hx hb hts inW_14 hown hK hZ3 (by decide) (by decide) rfl (by decide) k_10_239 rfl (D_180 W_prog_15_method_113_code_32 1 rfl rfl rfl) ?_
  obtain ⟨r4, F4, B4, hc4, hf⟩ := gbind hf
  refine va_calli (va_runS (As := [.long (lI (F3 14 0 0)), .long (lI (F3 14 0 1))]) (rest := []) ⟨hx, hb, hml, hown, hts⟩ (c_M_tick (l := l) hc4) (va_cwS 2 hts (gdS k_12_139 k_12_140 k_1_9 k_12_141) rfl rfl rfl (by decide +kernel) ⟨Nat.le_of_ble_eq_true rfl, Nat.le_of_ble_eq_true rfl⟩) (zPS X hZ3 hS3 [.long (lI (F3 14 0 0)), .long (lI (F3 14 0 1))]) rfl rfl hl.1 rfl (lv_room (Nat.le_of_ble_eq_true rfl)) (D_184 W_prog_15_method_113_code_32 4 rfl rfl rfl) ⟨Nat.le_of_ble_eq_true rfl, Nat.le_of_ble_eq_true rfl⟩) hS3 (fun q _ h => zAin X hS3 q h) (zAin X hS3) (fun p4 u4 t4 H4 locs4 ht4 hv4 hw4 hB4 hz4 hk4 hS4 => ?_)
  have hZ4 := zBack X ht4 hB4
  subst hw4
  cases hf
  exact W.iret hx hb hr (fun t ht hW => ⟨⟨_, (), rfl, rfl, by rw [ht]; exact hZ4, va_K.moved hW.alike hK⟩, hS4.F ht⟩) hS4.2.2 (D_172 W_prog_15_method_113_code_32 7 rfl rfl) hlk

abbrev Q_M_inKey (D : va_G) (ca : Nat → ClassId) (ad : Nat → Int → Nat → Nat) (L : List Nat) (r : Int) (F : zF) (B : zB) (A : Nat → Prop) : Array Value → State → Outcome → State → Prop := va_Qi (S := Unit) (fun p _ => p = iI r) (fun _ => zPo D ca ad lnM nM L F B A) A
def f_M_inKey_43 (K : Nat) (s0 : Int) (F : zF) (B : zB) : zO := some (s0, F, B)
set_option maxHeartbeats 4000000 in
set_option maxRecDepth 100000 in
theorem b_M_inKey_43 {D : va_G} {ca : Nat → ClassId} {ad : Nat → Int → Nat → Nat} {L : List Nat} {aS vS : Nat → Nat} {A : Nat → Prop} {p : Program} {l : Launch} {e : Env} {s : State} {m : MethodId} {args : Array Value} {below : List Frame} {meth : Method} {c : Code} {K : Nat} {r : Int} {F9 : zF} {B9 : zB} (X : zX D ca L aS vS A p s m args meth c prog_15_method_18_code 4 (Option.some Jvm.ClassFile.FieldType.int) "StaveHouseModel") {s0 : Int} {F : zF} {B : zB} {H : Heap} {locs : List Loc} {ls : Array Slot} (hf : f_M_inKey_43 K s0 F B = some (r, F9, B9)) (hZ : zH D ca ad lnM nM L F B A H) (hS : va_S A s.heap H locs) (hl : lv_has ls 4 []) : W p l e ({ frames := 2, cells := 0, slots := 0, locals := 43 } : Room) s m args below meth c H locs 0 0 (MQ below (Q_M_inKey D ca ad L r F9 B9 A) args s 0 0 A) (F0 m 43 ls [.int (iI s0)]) := by
  obtain ⟨hx, hb, hr, hml, hown, hts, hlk, hK, hA, hL, hX⟩ := id X
  replace hf : (some (s0, F, B)) = some (r, F9, B9) := hf
  cases hf
  exact W.iret hx hb hr (fun t ht hW => ⟨⟨_, (), rfl, rfl, by rw [ht]; exact hZ, va_K.moved hW.alike hK⟩, hS.F ht⟩) hS.2.2 (D_172 W_prog_15_method_18_code_32 11 rfl rfl) hlk

def f_M_inKey_31 (K : Nat) (s0 : Int) (F : zF) (B : zB) : zO := some (s0, F, B)
set_option maxHeartbeats 4000000 in
set_option maxRecDepth 100000 in
theorem b_M_inKey_31 {D : va_G} {ca : Nat → ClassId} {ad : Nat → Int → Nat → Nat} {L : List Nat} {aS vS : Nat → Nat} {A : Nat → Prop} {p : Program} {l : Launch} {e : Env} {s : State} {m : MethodId} {args : Array Value} {below : List Frame} {meth : Method} {c : Code} {K : Nat} {r : Int} {F9 : zF} {B9 : zB} (X : zX D ca L aS vS A p s m args meth c prog_15_method_18_code 4 (Option.some Jvm.ClassFile.FieldType.int) "StaveHouseModel") {s0 : Int} {F : zF} {B : zB} {H : Heap} {locs : List Loc} {ls : Array Slot} (hf : f_M_inKey_31 K s0 F B = some (r, F9, B9)) (hZ : zH D ca ad lnM nM L F B A H) (hS : va_S A s.heap H locs) (hl : lv_has ls 4 []) : W p l e ({ frames := 2, cells := 0, slots := 0, locals := 43 } : Room) s m args below meth c H locs 0 0 (MQ below (Q_M_inKey D ca ad L r F9 B9 A) args s 0 0 A) (F0 m 31 ls [.int (iI s0)]) := by
  obtain ⟨hx, hb, hr, hml, hown, hts, hlk, hK, hA, hL, hX⟩ := id X
  replace hf : (some (s0, F, B)) = some (r, F9, B9) := hf
  cases hf
  exact W.iret hx hb hr (fun t ht hW => ⟨⟨_, (), rfl, rfl, by rw [ht]; exact hZ, va_K.moved hW.alike hK⟩, hS.F ht⟩) hS.2.2 (D_172 W_prog_15_method_18_code_0 31 rfl rfl) hlk

def f_M_inKey (K : Nat) (l0 : Int) (l1 : Int) (F : zF) (B : zB) : zO := zbind (f_M_mod K ((2 * l1) - 6) 7 F B) (fun r1 F1 B1 => if r32 l0 then (if l0 ≤ 0 then if r32 (6 - r1) then if r32 (-l0) then (if (-l0) ≤ (6 - r1) then f_M_inKey_43 K 0 F1 B1 else f_M_inKey_43 K (-1) F1 B1) else none else none else if r32 r1 then (if l0 ≤ r1 then f_M_inKey_31 K 0 F1 B1 else f_M_inKey_31 K 1 F1 B1) else none) else none)
set_option maxHeartbeats 4000000 in
set_option maxRecDepth 100000 in
theorem c_M_inKey {l : Launch} {D : va_G} {ca : Nat → ClassId} {ad : Nat → Int → Nat → Nat} {L : List Nat} {aS vS : Nat → Nat} {sz K : Nat}  {l0 : Int} {l1 : Int} {F F9 : zF} {B B9 : zB} {r : Int} (hf : f_M_inKey K l0 l1 F B = some (r, F9, B9)) : Met l ({ cls := "StaveHouseModel", name := "inKey", desc := "(II)I" } : Jvm.MethodName) (Cond.code ({ cls := "StaveHouseModel", name := "inKey", desc := "(II)I" } : Jvm.MethodName) prog_15_method_18_code 4 (Option.some Jvm.ClassFile.FieldType.int) :: wAll) ({ frames := 2, cells := 0, slots := 0, locals := 43 } : Room) (va_Pc [.int (iI l0), .int (iI l1)] (zPre D ca ad lnM nM L aS vS F B sz)) (Q_M_inKey D ca ad L r F9 B9 (zA L sz)) 0 0 (zA L sz) := by
  refine zMet (Qc := Q_M_inKey D ca ad L r F9 B9) (lv := [(0, .int (iI l0)), (1, .int (iI l1))]) (by decide) (Nat.le_of_ble_eq_true rfl) rfl (fun A p e s m below meth c ls X hZ hS hl => ?_)
  obtain ⟨hx, hb, hr, hml, hown, hts, hlk, hK, hA, hL, hX⟩ := id X
  replace hf : (zbind (f_M_mod K ((2 * l1) - 6) 7 F B) (fun r1 F1 B1 => if r32 l0 then (if l0 ≤ 0 then if r32 (6 - r1) then if r32 (-l0) then (if (-l0) ≤ (6 - r1) then f_M_inKey_43 K 0 F1 B1 else f_M_inKey_43 K (-1) F1 B1) else none else none else if r32 r1 then (if l0 ≤ r1 then f_M_inKey_31 K 0 F1 B1 else f_M_inKey_31 K 1 F1 B1) else none) else none)) = some (r, F9, B9) := hf
  refine lv_iconst (v := iI 2) hx hb (D_5 W_prog_15_method_18_code_0 0 rfl rfl) rfl ?_
  refine lv_iload_n hx hb (D_27 W_prog_15_method_18_code_0 1 rfl rfl) rfl (lv_at hl 1 rfl) ?_
  refine zmul hx hb (D_104 W_prog_15_method_18_code_0 2 rfl rfl) ?_
  refine lv_bipush (v := iI 6) hx hb (D_16 W_prog_15_method_18_code_0 3 rfl rfl rfl) (by decide) ?_
  refine zsub hx hb (D_100 W_prog_15_method_18_code_0 5 rfl rfl) ?_
  refine lv_bipush (v := iI 7) hx hb (D_16 W_prog_15_method_18_code_0 6 rfl rfl rfl) (by decide) ?_
  obtain ⟨r1, F1, B1, hc1, hf⟩ := gbind hf
  refine va_calli (va_runS (As := [.int (iI ((2 * l1) - 6)), .int (iI 7)]) (rest := []) ⟨hx, hb, hml, hown, hts⟩ (c_M_mod (l := l) hc1) (va_cwS 2 hts (gdS k_12_164 k_12_165 k_1_9 k_12_166) rfl rfl rfl (by decide +kernel) ⟨Nat.le_of_ble_eq_true rfl, Nat.le_of_ble_eq_true rfl⟩) (zPS X hZ hS [.int (iI ((2 * l1) - 6)), .int (iI 7)]) rfl rfl hl.1 rfl (lv_room (Nat.le_of_ble_eq_true rfl)) (D_184 W_prog_15_method_18_code_0 8 rfl rfl rfl) ⟨Nat.le_of_ble_eq_true rfl, Nat.le_of_ble_eq_true rfl⟩) hS (fun q _ h => zAin X hS q h) (zAin X hS) (fun p1 u1 t1 H1 locs1 ht1 hv1 hw1 hB1 hz1 hk1 hS1 => ?_)
  have hZ1 := zBack X ht1 hB1
  subst hw1
  refine lv_istore_n (lv' := [(2, .int (iI r1)), (0, .int (iI l0)), (1, .int (iI l1))]) hx hb (D_61 W_prog_15_method_18_code_0 11 rfl rfl) rfl hl (by decide) rfl (fun ls hl => ?_)
  refine lv_bipush (v := iI 6) hx hb (D_16 W_prog_15_method_18_code_0 12 rfl rfl rfl) (by decide) ?_
  refine lv_iload_n hx hb (D_28 W_prog_15_method_18_code_0 14 rfl rfl) rfl (lv_at hl 0 rfl) ?_
  refine zsub hx hb (D_100 W_prog_15_method_18_code_0 15 rfl rfl) ?_
  refine lv_istore_n (lv' := [(3, .int (iI (6 - r1))), (2, .int (iI r1)), (0, .int (iI l0)), (1, .int (iI l1))]) hx hb (D_62 W_prog_15_method_18_code_0 16 rfl rfl) rfl hl (by decide) rfl (fun ls hl => ?_)
  refine lv_iload_n hx hb (D_26 W_prog_15_method_18_code_0 17 rfl rfl) rfl (lv_at hl 2 rfl) ?_
  obtain ⟨g2, hf⟩ := gif hf
  refine z0le (tgt := 32) hx hb g2 (D_158 W_prog_15_method_18_code_0 18 rfl rfl rfl) (by decide) (fun h3 => ?_) (fun h3 => ?_)
  · replace hf := gpos hf h3
    refine lv_iload_n hx hb (D_29 W_prog_15_method_18_code_32 0 rfl rfl) rfl (lv_at hl 0 rfl) ?_
    refine lv_iload_n hx hb (D_26 W_prog_15_method_18_code_32 1 rfl rfl) rfl (lv_at hl 2 rfl) ?_
    refine zneg hx hb (D_116 W_prog_15_method_18_code_32 2 rfl rfl) ?_
    obtain ⟨g4, hf⟩ := gif hf
    obtain ⟨g5, hf⟩ := gif hf
    refine zge (tgt := 42) hx hb g4 g5 (D_162 W_prog_15_method_18_code_32 3 rfl rfl rfl) (by decide) (fun h6 => ?_) (fun h6 => ?_)
    · replace hf := gpos hf h6
      refine lv_iconst (v := iI 0) hx hb (D_3 W_prog_15_method_18_code_32 10 rfl rfl) rfl ?_
      exact b_M_inKey_43 X hf hZ1 hS1 (lv_sub hl [] rfl)
    · replace hf := gneg hf h6
      refine lv_iconst (v := iI (-1)) hx hb (D_2 W_prog_15_method_18_code_32 6 rfl rfl) rfl ?_
      refine lv_goto (tgt := 43) hx hb (D_167 W_prog_15_method_18_code_32 7 rfl rfl rfl) (by decide) ?_
      exact b_M_inKey_43 X hf hZ1 hS1 (lv_sub hl [] rfl)
  · replace hf := gneg hf h3
    refine lv_iload_n hx hb (D_28 W_prog_15_method_18_code_0 21 rfl rfl) rfl (lv_at hl 1 rfl) ?_
    refine lv_iload_n hx hb (D_26 W_prog_15_method_18_code_0 22 rfl rfl) rfl (lv_at hl 2 rfl) ?_
    obtain ⟨g7, hf⟩ := gif hf
    refine zge (tgt := 30) hx hb g7 g2 (D_162 W_prog_15_method_18_code_0 23 rfl rfl rfl) (by decide) (fun h8 => ?_) (fun h8 => ?_)
    · replace hf := gpos hf h8
      refine lv_iconst (v := iI 0) hx hb (D_3 W_prog_15_method_18_code_0 30 rfl rfl) rfl ?_
      exact b_M_inKey_31 X hf hZ1 hS1 (lv_sub hl [] rfl)
    · replace hf := gneg hf h8
      refine lv_iconst (v := iI 1) hx hb (D_4 W_prog_15_method_18_code_0 26 rfl rfl) rfl ?_
      refine lv_goto (tgt := 31) hx hb (D_167 W_prog_15_method_18_code_0 27 rfl rfl rfl) (by decide) ?_
      exact b_M_inKey_31 X hf hZ1 hS1 (lv_sub hl [] rfl)

abbrev Q_M_plain (D : va_G) (ca : Nat → ClassId) (ad : Nat → Int → Nat → Nat) (L : List Nat) (r : Int) (F : zF) (B : zB) (A : Nat → Prop) : Array Value → State → Outcome → State → Prop := va_Qv (S := Unit) (fun _ => True) (fun _ => zPo D ca ad lnM nM L F B A) A
def f_M_plain_198 (K : Nat)  (F : zF) (B : zB) : zO := some (0, F, B)
set_option maxHeartbeats 4000000 in
set_option maxRecDepth 100000 in
theorem b_M_plain_198 {D : va_G} {ca : Nat → ClassId} {ad : Nat → Int → Nat → Nat} {L : List Nat} {aS vS : Nat → Nat} {A : Nat → Prop} {p : Program} {l : Launch} {e : Env} {s : State} {m : MethodId} {args : Array Value} {below : List Frame} {meth : Method} {c : Code} {K : Nat} {r : Int} {F9 : zF} {B9 : zB} (X : zX D ca L aS vS A p s m args meth c prog_15_method_118_code 14 (Option.none : Option Jvm.ClassFile.FieldType) "StaveHouseModel")  {F : zF} {B : zB} {H : Heap} {locs : List Loc} {ls : Array Slot} (hf : f_M_plain_198 K  F B = some (r, F9, B9)) (hZ : zH D ca ad lnM nM L F B A H) (hS : va_S A s.heap H locs) (hl : lv_has ls 14 []) : W p l e ({ frames := 4, cells := 0, slots := 0, locals := 107 } : Room) s m args below meth c H locs 0 0 (MQ below (Q_M_plain D ca ad L r F9 B9 A) args s 0 0 A) (F0 m 198 ls []) := by
  obtain ⟨hx, hb, hr, hml, hown, hts, hlk, hK, hA, hL, hX⟩ := id X
  replace hf : (some (0, F, B)) = some (r, F9, B9) := hf
  cases hf
  exact W.vret hx hb hr (fun t ht hW => ⟨⟨(), rfl, trivial, by rw [ht]; exact hZ, va_K.moved hW.alike hK⟩, hS.F ht⟩) hS.2.2 (D_177 W_prog_15_method_118_code_192 6 rfl rfl) hlk

def f_M_plain_164 (K : Nat) (l9 : Int) (l8 : Int) (l6 : Int) (l1 : Int) (l2 : Int) (l3 : Int) (l4 : Int) (l5 : Int) (s0 : Int) (F : zF) (B : zB) : zO := if r32 l9 then (if l9 ≤ 0 then f_M_plain_198 K F B else zbind (f_M_tone K l4 l5 F B) (fun r27 F27 B27 => zbind (f_M_forceOf K l1 l6 F27 B27) (fun r28 F28 B28 => zbind (f_M_sound_1 K l8 (l8 + s0) r27 r28 l2 l3 F28 B28) (fun r29 F29 B29 => f_M_plain_198 K F29 B29)))) else none
set_option maxHeartbeats 4000000 in
set_option maxRecDepth 100000 in
theorem b_M_plain_164 {D : va_G} {ca : Nat → ClassId} {ad : Nat → Int → Nat → Nat} {L : List Nat} {aS vS : Nat → Nat} {A : Nat → Prop} {p : Program} {l : Launch} {e : Env} {s : State} {m : MethodId} {args : Array Value} {below : List Frame} {meth : Method} {c : Code} {K : Nat} {r : Int} {F9 : zF} {B9 : zB} (X : zX D ca L aS vS A p s m args meth c prog_15_method_118_code 14 (Option.none : Option Jvm.ClassFile.FieldType) "StaveHouseModel") {l9 : Int} {l8 : Int} {l6 : Int} {l1 : Int} {l2 : Int} {l3 : Int} {l4 : Int} {l5 : Int} {s0 : Int} {F : zF} {B : zB} {H : Heap} {locs : List Loc} {ls : Array Slot} (hf : f_M_plain_164 K l9 l8 l6 l1 l2 l3 l4 l5 s0 F B = some (r, F9, B9)) (hZ : zH D ca ad lnM nM L F B A H) (hS : va_S A s.heap H locs) (hl : lv_has ls 14 [(9, .int (iI l9)), (8, .int (iI l8)), (6, .int (iI l6)), (0, .ref (ad 14 0 0)), (1, .ref (ad 13 l1 0)), (2, .int (iI l2)), (3, .int (iI l3)), (4, .int (iI l4)), (5, .int (iI l5))]) : W p l e ({ frames := 4, cells := 0, slots := 0, locals := 107 } : Room) s m args below meth c H locs 0 0 (MQ below (Q_M_plain D ca ad L r F9 B9 A) args s 0 0 A) (F0 m 164 ls [.int (iI s0)]) := by
  obtain ⟨hx, hb, hr, hml, hown, hts, hlk, hK, hA, hL, hX⟩ := id X
  replace hf : (if r32 l9 then (if l9 ≤ 0 then f_M_plain_198 K F B else zbind (f_M_tone K l4 l5 F B) (fun r27 F27 B27 => zbind (f_M_forceOf K l1 l6 F27 B27) (fun r28 F28 B28 => zbind (f_M_sound_1 K l8 (l8 + s0) r27 r28 l2 l3 F28 B28) (fun r29 F29 B29 => f_M_plain_198 K F29 B29)))) else none) = some (r, F9, B9) := hf
  refine lv_istore (lv' := [(13, .int (iI s0)), (9, .int (iI l9)), (8, .int (iI l8)), (6, .int (iI l6)), (0, .ref (ad 14 0 0)), (1, .ref (ad 13 l1 0)), (2, .int (iI l2)), (3, .int (iI l3)), (4, .int (iI l4)), (5, .int (iI l5))]) hx hb (D_54 W_prog_15_method_118_code_160 4 rfl rfl) hl (by decide) rfl (fun ls hl => ?_)
  refine lv_iload hx hb (D_21 W_prog_15_method_118_code_160 6 rfl rfl) (lv_at hl 1 rfl) ?_
  obtain ⟨g25, hf⟩ := gif hf
  refine z0le (tgt := 198) hx hb g25 (D_158 W_prog_15_method_118_code_160 8 rfl rfl rfl) (by decide) (fun h26 => ?_) (fun h26 => ?_)
  · replace hf := gpos hf h26
    exact b_M_plain_198 X hf hZ hS (lv_sub hl [] rfl)
  · replace hf := gneg hf h26
    refine lv_aload_n hx hb (D_42 W_prog_15_method_118_code_160 11 rfl rfl) rfl (lv_at hl 4 rfl) ?_
    refine lv_iload hx hb (D_21 W_prog_15_method_118_code_160 12 rfl rfl) (lv_at hl 2 rfl) ?_
    refine lv_iload hx hb (D_21 W_prog_15_method_118_code_160 14 rfl rfl) (lv_at hl 2 rfl) ?_
    refine lv_iload hx hb (D_21 W_prog_15_method_118_code_160 16 rfl rfl) (lv_at hl 0 rfl) ?_
    refine zadd hx hb (D_96 W_prog_15_method_118_code_160 18 rfl rfl) ?_
    refine lv_iload hx hb (D_21 W_prog_15_method_118_code_160 19 rfl rfl) (lv_at hl 8 rfl) ?_
    refine lv_iload hx hb (D_21 W_prog_15_method_118_code_160 21 rfl rfl) (lv_at hl 9 rfl) ?_
    obtain ⟨r27, F27, B27, hc27, hf⟩ := gbind hf
    refine va_calli (va_runS (As := [.int (iI l4), .int (iI l5)]) (rest := [.int (iI (l8 + s0)), .int (iI l8), .ref (ad 14 0 0)]) ⟨hx, hb, hml, hown, hts⟩ (c_M_tone (l := l) hc27) (va_cwS 2 hts (gdS k_12_158 k_12_159 k_1_9 k_12_160) rfl rfl rfl (by decide +kernel) ⟨Nat.le_of_ble_eq_true rfl, Nat.le_of_ble_eq_true rfl⟩) (zPS X hZ hS [.int (iI l4), .int (iI l5)]) rfl rfl hl.1 rfl (lv_room (Nat.le_of_ble_eq_true rfl)) (D_184 W_prog_15_method_118_code_160 23 rfl rfl rfl) ⟨Nat.le_of_ble_eq_true rfl, Nat.le_of_ble_eq_true rfl⟩) hS (fun q _ h => zAin X hS q h) (zAin X hS) (fun p27 u27 t27 H27 locs27 ht27 hv27 hw27 hB27 hz27 hk27 hS27 => ?_)
    have hZ27 := zBack X ht27 hB27
    subst hw27
    refine lv_aload_n hx hb (D_42 W_prog_15_method_118_code_160 26 rfl rfl) rfl (lv_at hl 4 rfl) ?_
    refine lv_aload_n hx hb (D_43 W_prog_15_method_118_code_160 27 rfl rfl) rfl (lv_at hl 5 rfl) ?_
    refine lv_iload hx hb (D_21 W_prog_15_method_118_code_160 28 rfl rfl) (lv_at hl 3 rfl) ?_
    obtain ⟨r28, F28, B28, hc28, hf⟩ := gbind hf
    refine va_calli (va_runV (As := [.ref (ad 13 l1 0), .int (iI l6)]) (rest := [.int (iI r27), .int (iI (l8 + s0)), .int (iI l8), .ref (ad 14 0 0)]) ⟨hx, hb, hml, hown, hts⟩ (c_M_forceOf (l := l) hc28) (cwV 2 hts (gdV k_12_170 k_12_172 ks_137 k_1_9 k_12_173) rfl rfl rfl (by decide +kernel) ⟨Nat.le_of_ble_eq_true rfl, Nat.le_of_ble_eq_true rfl⟩) (zPV X hZ27 hS27 (ci := 14) (by decide) (by decide) (r := (RX14, TX14, 107)) rfl [.ref (ad 13 l1 0), .int (iI l6)]) rfl rfl hl.1 rfl (lv_room (Nat.le_of_ble_eq_true rfl)) (D_182 W_prog_15_method_118_code_160 30 rfl rfl rfl) ⟨Nat.le_of_ble_eq_true rfl, Nat.le_of_ble_eq_true rfl⟩) hS27 (fun q _ h => zAin X hS27 q h) (zAin X hS27) (fun p28 u28 t28 H28 locs28 ht28 hv28 hw28 hB28 hz28 hk28 hS28 => ?_)
    have hZ28 := zBack X ht28 hB28
    subst hw28
    refine lv_iload_n hx hb (D_28 W_prog_15_method_118_code_192 1 rfl rfl) rfl (lv_at hl 6 rfl) ?_
    refine lv_iload_n hx hb (D_29 W_prog_15_method_118_code_192 2 rfl rfl) rfl (lv_at hl 7 rfl) ?_
    obtain ⟨r29, F29, B29, hc29, hf⟩ := gbind hf
    refine va_callv (va_runV (As := [.int (iI l8), .int (iI (l8 + s0)), .int (iI r27), .int (iI r28), .int (iI l2), .int (iI l3)]) (rest := []) ⟨hx, hb, hml, hown, hts⟩ (c_M_sound_1 (l := l) hc29) (cwV 6 hts (gdV k_12_174 k_12_176 ks_138 k_1_9 k_12_177) rfl rfl rfl (by decide +kernel) ⟨Nat.le_of_ble_eq_true rfl, Nat.le_of_ble_eq_true rfl⟩) (zPV X hZ28 hS28 (ci := 14) (by decide) (by decide) (r := (RX14, TX14, 107)) rfl [.int (iI l8), .int (iI (l8 + s0)), .int (iI r27), .int (iI r28), .int (iI l2), .int (iI l3)]) rfl rfl hl.1 rfl (lv_room (Nat.le_of_ble_eq_true rfl)) (D_182 W_prog_15_method_118_code_192 3 rfl rfl rfl) ⟨Nat.le_of_ble_eq_true rfl, Nat.le_of_ble_eq_true rfl⟩) hS28 (fun q _ h => zAin X hS28 q h) (zAin X hS28) (fun u29 t29 H29 locs29 ht29 hv29 hw29 hB29 hz29 hk29 hS29 => ?_)
    have hZ29 := zBack X ht29 hB29
    exact b_M_plain_198 X hf hZ29 hS29 (lv_sub hl [] rfl)

def f_M_plain_134 (K : Nat) (l11 : Int) (l10 : Int) (l9 : Int) (l8 : Int) (l6 : Int) (l1 : Int) (l2 : Int) (l3 : Int) (l4 : Int) (l5 : Int) (s0 : Int) (F : zF) (B : zB) : zO := if r32 l11 then (if l11 = 0 then if r32 l10 then (if l10 = 0 then f_M_plain_164 K l9 l8 l6 l1 l2 l3 l4 l5 (l9 - (zdv l9 8)) F B else f_M_plain_164 K l9 l8 l6 l1 l2 l3 l4 l5 s0 F B) else none else f_M_plain_164 K l9 l8 l6 l1 l2 l3 l4 l5 l9 F B) else none
set_option maxHeartbeats 4000000 in
set_option maxRecDepth 100000 in
theorem b_M_plain_134 {D : va_G} {ca : Nat → ClassId} {ad : Nat → Int → Nat → Nat} {L : List Nat} {aS vS : Nat → Nat} {A : Nat → Prop} {p : Program} {l : Launch} {e : Env} {s : State} {m : MethodId} {args : Array Value} {below : List Frame} {meth : Method} {c : Code} {K : Nat} {r : Int} {F9 : zF} {B9 : zB} (X : zX D ca L aS vS A p s m args meth c prog_15_method_118_code 14 (Option.none : Option Jvm.ClassFile.FieldType) "StaveHouseModel") {l11 : Int} {l10 : Int} {l9 : Int} {l8 : Int} {l6 : Int} {l1 : Int} {l2 : Int} {l3 : Int} {l4 : Int} {l5 : Int} {s0 : Int} {F : zF} {B : zB} {H : Heap} {locs : List Loc} {ls : Array Slot} (hf : f_M_plain_134 K l11 l10 l9 l8 l6 l1 l2 l3 l4 l5 s0 F B = some (r, F9, B9)) (hZ : zH D ca ad lnM nM L F B A H) (hS : va_S A s.heap H locs) (hl : lv_has ls 14 [(11, .int (iI l11)), (10, .int (iI l10)), (9, .int (iI l9)), (8, .int (iI l8)), (6, .int (iI l6)), (0, .ref (ad 14 0 0)), (1, .ref (ad 13 l1 0)), (2, .int (iI l2)), (3, .int (iI l3)), (4, .int (iI l4)), (5, .int (iI l5))]) : W p l e ({ frames := 4, cells := 0, slots := 0, locals := 107 } : Room) s m args below meth c H locs 0 0 (MQ below (Q_M_plain D ca ad L r F9 B9 A) args s 0 0 A) (F0 m 134 ls [.int (iI s0)]) := by
  obtain ⟨hx, hb, hr, hml, hown, hts, hlk, hK, hA, hL, hX⟩ := id X
  replace hf : (if r32 l11 then (if l11 = 0 then if r32 l10 then (if l10 = 0 then f_M_plain_164 K l9 l8 l6 l1 l2 l3 l4 l5 (l9 - (zdv l9 8)) F B else f_M_plain_164 K l9 l8 l6 l1 l2 l3 l4 l5 s0 F B) else none else f_M_plain_164 K l9 l8 l6 l1 l2 l3 l4 l5 l9 F B) else none) = some (r, F9, B9) := hf
  refine lv_istore (lv' := [(12, .int (iI s0)), (11, .int (iI l11)), (10, .int (iI l10)), (9, .int (iI l9)), (8, .int (iI l8)), (6, .int (iI l6)), (0, .ref (ad 14 0 0)), (1, .ref (ad 13 l1 0)), (2, .int (iI l2)), (3, .int (iI l3)), (4, .int (iI l4)), (5, .int (iI l5))]) hx hb (D_54 W_prog_15_method_118_code_128 6 rfl rfl) hl (by decide) rfl (fun ls hl => ?_)
  refine lv_iload hx hb (D_21 W_prog_15_method_118_code_128 8 rfl rfl) (lv_at hl 1 rfl) ?_
  obtain ⟨g21, hf⟩ := gif hf
  refine z0eq (tgt := 146) hx hb g21 (D_153 W_prog_15_method_118_code_128 10 rfl rfl rfl) (by decide) (fun h22 => ?_) (fun h22 => ?_)
  · replace hf := gpos hf h22
    refine lv_iload hx hb (D_21 W_prog_15_method_118_code_128 18 rfl rfl) (lv_at hl 2 rfl) ?_
    obtain ⟨g23, hf⟩ := gif hf
    refine z0eq (tgt := 156) hx hb g23 (D_153 W_prog_15_method_118_code_128 20 rfl rfl rfl) (by decide) (fun h24 => ?_) (fun h24 => ?_)
    · replace hf := gpos hf h24
      refine lv_iload hx hb (D_21 W_prog_15_method_118_code_128 28 rfl rfl) (lv_at hl 3 rfl) ?_
      refine lv_iload hx hb (D_21 W_prog_15_method_118_code_128 30 rfl rfl) (lv_at hl 3 rfl) ?_
      refine lv_bipush (v := iI 8) hx hb (D_16 W_prog_15_method_118_code_160 0 rfl rfl rfl) (by decide) ?_
      refine zdv_r hx hb (by decide) (D_108 W_prog_15_method_118_code_160 2 rfl rfl) ?_
      refine zsub hx hb (D_100 W_prog_15_method_118_code_160 3 rfl rfl) ?_
      exact b_M_plain_164 X hf hZ hS (lv_sub hl [3, 4, 5, 6, 7, 8, 9, 10, 11] rfl)
    · replace hf := gneg hf h24
      refine lv_iload hx hb (D_21 W_prog_15_method_118_code_128 23 rfl rfl) (lv_at hl 0 rfl) ?_
      refine lv_goto (tgt := 164) hx hb (D_167 W_prog_15_method_118_code_128 25 rfl rfl rfl) (by decide) ?_
      exact b_M_plain_164 X hf hZ hS (lv_sub hl [3, 4, 5, 6, 7, 8, 9, 10, 11] rfl)
  · replace hf := gneg hf h22
    refine lv_iload hx hb (D_21 W_prog_15_method_118_code_128 13 rfl rfl) (lv_at hl 3 rfl) ?_
    refine lv_goto (tgt := 164) hx hb (D_167 W_prog_15_method_118_code_128 15 rfl rfl rfl) (by decide) ?_
    exact b_M_plain_164 X hf hZ hS (lv_sub hl [3, 4, 5, 6, 7, 8, 9, 10, 11] rfl)

def f_M_plain_116 (K : Nat) (l10 : Int) (l9 : Int) (l8 : Int) (l6 : Int) (l1 : Int) (l2 : Int) (l3 : Int) (l4 : Int) (l5 : Int) (s0 : Int) (F : zF) (B : zB) : zO := if r32 (zdv l9 2) then (if (zdv l9 2) ≤ 1 then f_M_plain_134 K s0 l10 l9 l8 l6 l1 l2 l3 l4 l5 1 F B else f_M_plain_134 K s0 l10 l9 l8 l6 l1 l2 l3 l4 l5 (zdv l9 2) F B) else none
set_option maxHeartbeats 4000000 in
set_option maxRecDepth 100000 in
theorem b_M_plain_116 {D : va_G} {ca : Nat → ClassId} {ad : Nat → Int → Nat → Nat} {L : List Nat} {aS vS : Nat → Nat} {A : Nat → Prop} {p : Program} {l : Launch} {e : Env} {s : State} {m : MethodId} {args : Array Value} {below : List Frame} {meth : Method} {c : Code} {K : Nat} {r : Int} {F9 : zF} {B9 : zB} (X : zX D ca L aS vS A p s m args meth c prog_15_method_118_code 14 (Option.none : Option Jvm.ClassFile.FieldType) "StaveHouseModel") {l10 : Int} {l9 : Int} {l8 : Int} {l6 : Int} {l1 : Int} {l2 : Int} {l3 : Int} {l4 : Int} {l5 : Int} {s0 : Int} {F : zF} {B : zB} {H : Heap} {locs : List Loc} {ls : Array Slot} (hf : f_M_plain_116 K l10 l9 l8 l6 l1 l2 l3 l4 l5 s0 F B = some (r, F9, B9)) (hZ : zH D ca ad lnM nM L F B A H) (hS : va_S A s.heap H locs) (hl : lv_has ls 14 [(10, .int (iI l10)), (9, .int (iI l9)), (8, .int (iI l8)), (6, .int (iI l6)), (0, .ref (ad 14 0 0)), (1, .ref (ad 13 l1 0)), (2, .int (iI l2)), (3, .int (iI l3)), (4, .int (iI l4)), (5, .int (iI l5))]) : W p l e ({ frames := 4, cells := 0, slots := 0, locals := 107 } : Room) s m args below meth c H locs 0 0 (MQ below (Q_M_plain D ca ad L r F9 B9 A) args s 0 0 A) (F0 m 116 ls [.int (iI s0)]) := by
  obtain ⟨hx, hb, hr, hml, hown, hts, hlk, hK, hA, hL, hX⟩ := id X
  replace hf : (if r32 (zdv l9 2) then (if (zdv l9 2) ≤ 1 then f_M_plain_134 K s0 l10 l9 l8 l6 l1 l2 l3 l4 l5 1 F B else f_M_plain_134 K s0 l10 l9 l8 l6 l1 l2 l3 l4 l5 (zdv l9 2) F B) else none) = some (r, F9, B9) := hf
  refine lv_istore (lv' := [(11, .int (iI s0)), (10, .int (iI l10)), (9, .int (iI l9)), (8, .int (iI l8)), (6, .int (iI l6)), (0, .ref (ad 14 0 0)), (1, .ref (ad 13 l1 0)), (2, .int (iI l2)), (3, .int (iI l3)), (4, .int (iI l4)), (5, .int (iI l5))]) hx hb (D_54 W_prog_15_method_118_code_96 20 rfl rfl) hl (by decide) rfl (fun ls hl => ?_)
  refine lv_iload hx hb (D_21 W_prog_15_method_118_code_96 22 rfl rfl) (lv_at hl 2 rfl) ?_
  refine lv_iconst (v := iI 2) hx hb (D_5 W_prog_15_method_118_code_96 24 rfl rfl) rfl ?_
  refine zdv_r hx hb (by decide) (D_108 W_prog_15_method_118_code_96 25 rfl rfl) ?_
  refine lv_iconst (v := iI 1) hx hb (D_4 W_prog_15_method_118_code_96 26 rfl rfl) rfl ?_
  obtain ⟨g19, hf⟩ := gif hf
  refine zle (tgt := 133) hx hb g19 (by decide) (D_164 W_prog_15_method_118_code_96 27 rfl rfl rfl) (by decide) (fun h20 => ?_) (fun h20 => ?_)
  · replace hf := gpos hf h20
    refine lv_iconst (v := iI 1) hx hb (D_4 W_prog_15_method_118_code_128 5 rfl rfl) rfl ?_
    exact b_M_plain_134 X hf hZ hS (lv_sub hl [0, 1, 2, 3, 4, 5, 6, 7, 8, 9, 10] rfl)
  · replace hf := gneg hf h20
    refine lv_iload hx hb (D_21 W_prog_15_method_118_code_96 30 rfl rfl) (lv_at hl 2 rfl) ?_
    refine lv_iconst (v := iI 2) hx hb (D_5 W_prog_15_method_118_code_128 0 rfl rfl) rfl ?_
    refine zdv_r hx hb (by decide) (D_108 W_prog_15_method_118_code_128 1 rfl rfl) ?_
    refine lv_goto (tgt := 134) hx hb (D_167 W_prog_15_method_118_code_128 2 rfl rfl rfl) (by decide) ?_
    exact b_M_plain_134 X hf hZ hS (lv_sub hl [0, 1, 2, 3, 4, 5, 6, 7, 8, 9, 10] rfl)

def f_M_plain_115 (K : Nat) (l10 : Int) (l9 : Int) (l8 : Int) (l6 : Int) (l1 : Int) (l2 : Int) (l3 : Int) (l4 : Int) (l5 : Int) (F : zF) (B : zB) : zO := f_M_plain_116 K l10 l9 l8 l6 l1 l2 l3 l4 l5 0 F B
set_option maxHeartbeats 4000000 in
set_option maxRecDepth 100000 in
theorem b_M_plain_115 {D : va_G} {ca : Nat → ClassId} {ad : Nat → Int → Nat → Nat} {L : List Nat} {aS vS : Nat → Nat} {A : Nat → Prop} {p : Program} {l : Launch} {e : Env} {s : State} {m : MethodId} {args : Array Value} {below : List Frame} {meth : Method} {c : Code} {K : Nat} {r : Int} {F9 : zF} {B9 : zB} (X : zX D ca L aS vS A p s m args meth c prog_15_method_118_code 14 (Option.none : Option Jvm.ClassFile.FieldType) "StaveHouseModel") {l10 : Int} {l9 : Int} {l8 : Int} {l6 : Int} {l1 : Int} {l2 : Int} {l3 : Int} {l4 : Int} {l5 : Int} {F : zF} {B : zB} {H : Heap} {locs : List Loc} {ls : Array Slot} (hf : f_M_plain_115 K l10 l9 l8 l6 l1 l2 l3 l4 l5 F B = some (r, F9, B9)) (hZ : zH D ca ad lnM nM L F B A H) (hS : va_S A s.heap H locs) (hl : lv_has ls 14 [(10, .int (iI l10)), (9, .int (iI l9)), (8, .int (iI l8)), (6, .int (iI l6)), (0, .ref (ad 14 0 0)), (1, .ref (ad 13 l1 0)), (2, .int (iI l2)), (3, .int (iI l3)), (4, .int (iI l4)), (5, .int (iI l5))]) : W p l e ({ frames := 4, cells := 0, slots := 0, locals := 107 } : Room) s m args below meth c H locs 0 0 (MQ below (Q_M_plain D ca ad L r F9 B9 A) args s 0 0 A) (F0 m 115 ls []) := by
  obtain ⟨hx, hb, hr, hml, hown, hts, hlk, hK, hA, hL, hX⟩ := id X
  replace hf : (f_M_plain_116 K l10 l9 l8 l6 l1 l2 l3 l4 l5 0 F B) = some (r, F9, B9) := hf
  refine lv_iconst (v := iI 0) hx hb (D_3 W_prog_15_method_118_code_96 19 rfl rfl) rfl ?_
  exact b_M_plain_116 X hf hZ hS (lv_sub hl [0, 1, 2, 3, 4, 5, 6, 7, 8, 9] rfl)

def f_M_plain_111 (K : Nat) (l10 : Int) (l9 : Int) (l8 : Int) (l6 : Int) (l1 : Int) (l2 : Int) (l3 : Int) (l4 : Int) (l5 : Int) (F : zF) (B : zB) : zO := f_M_plain_116 K l10 l9 l8 l6 l1 l2 l3 l4 l5 1 F B
set_option maxHeartbeats 4000000 in
set_option maxRecDepth 100000 in
theorem b_M_plain_111 {D : va_G} {ca : Nat → ClassId} {ad : Nat → Int → Nat → Nat} {L : List Nat} {aS vS : Nat → Nat} {A : Nat → Prop} {p : Program} {l : Launch} {e : Env} {s : State} {m : MethodId} {args : Array Value} {below : List Frame} {meth : Method} {c : Code} {K : Nat} {r : Int} {F9 : zF} {B9 : zB} (X : zX D ca L aS vS A p s m args meth c prog_15_method_118_code 14 (Option.none : Option Jvm.ClassFile.FieldType) "StaveHouseModel") {l10 : Int} {l9 : Int} {l8 : Int} {l6 : Int} {l1 : Int} {l2 : Int} {l3 : Int} {l4 : Int} {l5 : Int} {F : zF} {B : zB} {H : Heap} {locs : List Loc} {ls : Array Slot} (hf : f_M_plain_111 K l10 l9 l8 l6 l1 l2 l3 l4 l5 F B = some (r, F9, B9)) (hZ : zH D ca ad lnM nM L F B A H) (hS : va_S A s.heap H locs) (hl : lv_has ls 14 [(10, .int (iI l10)), (9, .int (iI l9)), (8, .int (iI l8)), (6, .int (iI l6)), (0, .ref (ad 14 0 0)), (1, .ref (ad 13 l1 0)), (2, .int (iI l2)), (3, .int (iI l3)), (4, .int (iI l4)), (5, .int (iI l5))]) : W p l e ({ frames := 4, cells := 0, slots := 0, locals := 107 } : Room) s m args below meth c H locs 0 0 (MQ below (Q_M_plain D ca ad L r F9 B9 A) args s 0 0 A) (F0 m 111 ls []) := by
  obtain ⟨hx, hb, hr, hml, hown, hts, hlk, hK, hA, hL, hX⟩ := id X
  replace hf : (f_M_plain_116 K l10 l9 l8 l6 l1 l2 l3 l4 l5 1 F B) = some (r, F9, B9) := hf
  refine lv_iconst (v := iI 1) hx hb (D_4 W_prog_15_method_118_code_96 15 rfl rfl) rfl ?_
  refine lv_goto (tgt := 116) hx hb (D_167 W_prog_15_method_118_code_96 16 rfl rfl rfl) (by decide) ?_
  exact b_M_plain_116 X hf hZ hS (lv_sub hl [0, 1, 2, 3, 4, 5, 6, 7, 8, 9] rfl)

def f_M_plain_81 (K : Nat) (l9 : Int) (l8 : Int) (l7 : Int) (l6 : Int) (l1 : Int) (l2 : Int) (l3 : Int) (l4 : Int) (l5 : Int) (s0 : Int) (F : zF) (B : zB) : zO := if r32 s0 then (if s0 = 0 then if 0 ≤ l1 ∧ l1 < 3 then if 0 ≤ l7 ∧ l7 < 4000 then if r32 (zand (B 13 l1 18 l7) 32) then (if 0 < (zand (B 13 l1 18 l7) 32) then f_M_plain_111 K s0 l9 l8 l6 l1 l2 l3 l4 l5 F B else if r32 (B 13 l1 27 l7) then (if (B 13 l1 27 l7) = 0 then f_M_plain_115 K s0 l9 l8 l6 l1 l2 l3 l4 l5 F B else f_M_plain_111 K s0 l9 l8 l6 l1 l2 l3 l4 l5 F B) else none) else none else none else none else f_M_plain_115 K s0 l9 l8 l6 l1 l2 l3 l4 l5 F B) else none
set_option maxHeartbeats 4000000 in
set_option maxRecDepth 100000 in
theorem b_M_plain_81 {D : va_G} {ca : Nat → ClassId} {ad : Nat → Int → Nat → Nat} {L : List Nat} {aS vS : Nat → Nat} {A : Nat → Prop} {p : Program} {l : Launch} {e : Env} {s : State} {m : MethodId} {args : Array Value} {below : List Frame} {meth : Method} {c : Code} {K : Nat} {r : Int} {F9 : zF} {B9 : zB} (X : zX D ca L aS vS A p s m args meth c prog_15_method_118_code 14 (Option.none : Option Jvm.ClassFile.FieldType) "StaveHouseModel") {l9 : Int} {l8 : Int} {l7 : Int} {l6 : Int} {l1 : Int} {l2 : Int} {l3 : Int} {l4 : Int} {l5 : Int} {s0 : Int} {F : zF} {B : zB} {H : Heap} {locs : List Loc} {ls : Array Slot} (hf : f_M_plain_81 K l9 l8 l7 l6 l1 l2 l3 l4 l5 s0 F B = some (r, F9, B9)) (hZ : zH D ca ad lnM nM L F B A H) (hS : va_S A s.heap H locs) (hl : lv_has ls 14 [(9, .int (iI l9)), (8, .int (iI l8)), (7, .int (iI l7)), (6, .int (iI l6)), (0, .ref (ad 14 0 0)), (1, .ref (ad 13 l1 0)), (2, .int (iI l2)), (3, .int (iI l3)), (4, .int (iI l4)), (5, .int (iI l5))]) : W p l e ({ frames := 4, cells := 0, slots := 0, locals := 107 } : Room) s m args below meth c H locs 0 0 (MQ below (Q_M_plain D ca ad L r F9 B9 A) args s 0 0 A) (F0 m 81 ls [.int (iI s0)]) := by
  obtain ⟨hx, hb, hr, hml, hown, hts, hlk, hK, hA, hL, hX⟩ := id X
  replace hf : (if r32 s0 then (if s0 = 0 then if 0 ≤ l1 ∧ l1 < 3 then if 0 ≤ l7 ∧ l7 < 4000 then if r32 (zand (B 13 l1 18 l7) 32) then (if 0 < (zand (B 13 l1 18 l7) 32) then f_M_plain_111 K s0 l9 l8 l6 l1 l2 l3 l4 l5 F B else if r32 (B 13 l1 27 l7) then (if (B 13 l1 27 l7) = 0 then f_M_plain_115 K s0 l9 l8 l6 l1 l2 l3 l4 l5 F B else f_M_plain_111 K s0 l9 l8 l6 l1 l2 l3 l4 l5 F B) else none) else none else none else none else f_M_plain_115 K s0 l9 l8 l6 l1 l2 l3 l4 l5 F B) else none) = some (r, F9, B9) := hf
  refine lv_istore (lv' := [(10, .int (iI s0)), (9, .int (iI l9)), (8, .int (iI l8)), (7, .int (iI l7)), (6, .int (iI l6)), (0, .ref (ad 14 0 0)), (1, .ref (ad 13 l1 0)), (2, .int (iI l2)), (3, .int (iI l3)), (4, .int (iI l4)), (5, .int (iI l5))]) hx hb (D_54 W_prog_15_method_118_code_64 17 rfl rfl) hl (by decide) rfl (fun ls hl => ?_)
  refine lv_iload hx hb (D_21 W_prog_15_method_118_code_64 19 rfl rfl) (lv_at hl 0 rfl) ?_
  obtain ⟨g11, hf⟩ := gif hf
  refine z0ne (tgt := 115) hx hb g11 (D_154 W_prog_15_method_118_code_64 21 rfl rfl rfl) (by decide) (fun h12 => ?_) (fun h12 => ?_)
  · replace hf := gneg hf h12
    exact b_M_plain_115 X hf hZ hS (lv_sub hl [0, 1, 2, 4, 5, 6, 7, 8, 9, 10] rfl)
  · replace hf := gpos hf h12
    refine lv_aload_n hx hb (D_43 W_prog_15_method_118_code_64 24 rfl rfl) rfl (lv_at hl 6 rfl) ?_
    obtain ⟨g13, hf⟩ := gif hf
    refine zget (ci := 13) (C := RX13) (T := TX13) (v := .ref (ad 13 l1 (18 + 1))) (k := 18) hx hb hts inW_13 hown hK hZ g13.1 g13.2 rfl (by decide) k_9_154 rfl (D_180 W_prog_15_method_118_code_64 25 rfl rfl rfl) ?_
    refine lv_iload hx hb (D_21 W_prog_15_method_118_code_64 28 rfl rfl) (lv_at hl 3 rfl) ?_
    obtain ⟨g14, hf⟩ := gif hf
    refine zald (ci := 13) (k := 18) hx hb hK rfl hZ g13.1 g13.2 rfl (Nat.le_of_ble_eq_true rfl) g14.1 g14.2 (D_46 W_prog_15_method_118_code_64 30 rfl rfl) ?_
    refine lv_bipush (v := iI 32) hx hb (D_16 W_prog_15_method_118_code_64 31 rfl rfl rfl) (by decide) ?_
    refine zand_r hx hb (D_126 W_prog_15_method_118_code_96 1 rfl rfl) ?_
    obtain ⟨g15, hf⟩ := gif hf
    refine z0gt (tgt := 111) hx hb g15 (D_157 W_prog_15_method_118_code_96 2 rfl rfl rfl) (by decide) (fun h16 => ?_) (fun h16 => ?_)
    · replace hf := gpos hf h16
      exact b_M_plain_111 X hf hZ hS (lv_sub hl [0, 1, 2, 4, 5, 6, 7, 8, 9, 10] rfl)
    · replace hf := gneg hf h16
      refine lv_aload_n hx hb (D_43 W_prog_15_method_118_code_96 5 rfl rfl) rfl (lv_at hl 6 rfl) ?_
      refine zget (ci := 13) (C := RX13) (T := TX13) (v := .ref (ad 13 l1 (27 + 1))) (k := 27) hx hb hts inW_13 hown hK hZ g13.1 g13.2 rfl (by decide) k_9_172 rfl (D_180 W_prog_15_method_118_code_96 6 rfl rfl rfl) ?_
      refine lv_iload hx hb (D_21 W_prog_15_method_118_code_96 9 rfl rfl) (lv_at hl 3 rfl) ?_
      refine zzald (ci := 13) (k := 27) hx hb hK rfl hZ g13.1 g13.2 rfl (Nat.le_of_ble_eq_true rfl) g14.1 g14.2 (D_51 W_prog_15_method_118_code_96 11 rfl rfl) ?_
      obtain ⟨g17, hf⟩ := gif hf
      refine z0eq (tgt := 115) hx hb g17 (D_153 W_prog_15_method_118_code_96 12 rfl rfl rfl) (by decide) (fun h18 => ?_) (fun h18 => ?_)
      · replace hf := gpos hf h18
        exact b_M_plain_115 X hf hZ hS (lv_sub hl [0, 1, 2, 4, 5, 6, 7, 8, 9, 10] rfl)
      · replace hf := gneg hf h18
        exact b_M_plain_111 X hf hZ hS (lv_sub hl [0, 1, 2, 4, 5, 6, 7, 8, 9, 10] rfl)

def f_M_plain_13 (K : Nat) : Nat → Int → Int → Int → Int → Int → Int → Int → zF → zB → zO
  | 0, _, _, _, _, _, _, _, _, _ => none
  | n + 1, l7, l6, l1, l2, l3, l4, l5, F, B => zbind (f_M_ties K l1 l7 l4 l5 F B) (fun r1 F1 B1 => if r32 r1 then (if r1 = 0 then if 0 ≤ l1 ∧ l1 < 3 then if 0 ≤ l6 ∧ l6 < 4000 then zbind (f_M_tick K (B1 13 l1 14 l6) (B1 13 l1 15 l6) F1 B1) (fun r6 F6 B6 => zbind (f_M_endTick K l1 l7 F6 B6) (fun r7 F7 B7 => if 0 ≤ l7 ∧ l7 < 4000 then if r32 (zand (B7 13 l1 18 l7) 8) then (if (zand (B7 13 l1 18 l7) 8) ≤ 0 then f_M_plain_81 K (r7 - r6) r6 l7 l6 l1 l2 l3 l4 l5 0 F7 B7 else f_M_plain_81 K (r7 - r6) r6 l7 l6 l1 l2 l3 l4 l5 1 F7 B7) else none else none)) else none else none else f_M_plain_13 K n (l7 + 1) l6 l1 l2 l3 l4 l5 F1 B1) else none)
set_option maxHeartbeats 4000000 in
set_option maxRecDepth 100000 in
theorem b_M_plain_13 {D : va_G} {ca : Nat → ClassId} {ad : Nat → Int → Nat → Nat} {L : List Nat} {aS vS : Nat → Nat} {A : Nat → Prop} {p : Program} {l : Launch} {e : Env} {s : State} {m : MethodId} {args : Array Value} {below : List Frame} {meth : Method} {c : Code} {K : Nat} {r : Int} {F9 : zF} {B9 : zB} (X : zX D ca L aS vS A p s m args meth c prog_15_method_118_code 14 (Option.none : Option Jvm.ClassFile.FieldType) "StaveHouseModel") : ∀ {n : Nat} {l7 : Int} {l6 : Int} {l1 : Int} {l2 : Int} {l3 : Int} {l4 : Int} {l5 : Int} {F : zF} {B : zB} {H : Heap} {locs : List Loc} {ls : Array Slot}, f_M_plain_13 K n l7 l6 l1 l2 l3 l4 l5 F B = some (r, F9, B9) → zH D ca ad lnM nM L F B A H → va_S A s.heap H locs → lv_has ls 14 [(7, .int (iI l7)), (6, .int (iI l6)), (0, .ref (ad 14 0 0)), (1, .ref (ad 13 l1 0)), (2, .int (iI l2)), (3, .int (iI l3)), (4, .int (iI l4)), (5, .int (iI l5))] → W p l e ({ frames := 4, cells := 0, slots := 0, locals := 107 } : Room) s m args below meth c H locs 0 0 (MQ below (Q_M_plain D ca ad L r F9 B9 A) args s 0 0 A) (F0 m 13 ls []) := by
  obtain ⟨hx, hb, hr, hml, hown, hts, hlk, hK, hA, hL, hX⟩ := id X
  intro n
  induction n with
  | zero =>
    intros
    rename_i hf _ _ _
    cases hf
  | succ n ih =>
    intro l7 l6 l1 l2 l3 l4 l5 F B H locs ls hf hZ hS hl
    replace hf : (zbind (f_M_ties K l1 l7 l4 l5 F B) (fun r1 F1 B1 => if r32 r1 then (if r1 = 0 then if 0 ≤ l1 ∧ l1 < 3 then if 0 ≤ l6 ∧ l6 < 4000 then zbind (f_M_tick K (B1 13 l1 14 l6) (B1 13 l1 15 l6) F1 B1) (fun r6 F6 B6 => zbind (f_M_endTick K l1 l7 F6 B6) (fun r7 F7 B7 => if 0 ≤ l7 ∧ l7 < 4000 then if r32 (zand (B7 13 l1 18 l7) 8) then (if (zand (B7 13 l1 18 l7) 8) ≤ 0 then f_M_plain_81 K (r7 - r6) r6 l7 l6 l1 l2 l3 l4 l5 0 F7 B7 else f_M_plain_81 K (r7 - r6) r6 l7 l6 l1 l2 l3 l4 l5 1 F7 B7) else none else none)) else none else none else f_M_plain_13 K n (l7 + 1) l6 l1 l2 l3 l4 l5 F1 B1) else none)) = some (r, F9, B9) := hf
    refine lv_aload_n hx hb (D_43 W_prog_15_method_118_code_0 13 rfl rfl) rfl (lv_at hl 3 rfl) ?_
    refine lv_iload hx hb (D_21 W_prog_15_method_118_code_0 14 rfl rfl) (lv_at hl 0 rfl) ?_
    refine lv_iload hx hb (D_21 W_prog_15_method_118_code_0 16 rfl rfl) (lv_at hl 6 rfl) ?_
    refine lv_iload hx hb (D_21 W_prog_15_method_118_code_0 18 rfl rfl) (lv_at hl 7 rfl) ?_
    obtain ⟨r1, F1, B1, hc1, hf⟩ := gbind hf
    refine va_calli (va_runS (As := [.ref (ad 13 l1 0), .int (iI l7), .int (iI l4), .int (iI l5)]) (rest := []) ⟨hx, hb, hml, hown, hts⟩ (c_M_ties (l := l) hc1) (va_cwS 4 hts (gdS k_12_129 k_12_130 k_1_9 k_12_131) rfl rfl rfl (by decide +kernel) ⟨Nat.le_of_ble_eq_true rfl, Nat.le_of_ble_eq_true rfl⟩) (zPS X hZ hS [.ref (ad 13 l1 0), .int (iI l7), .int (iI l4), .int (iI l5)]) rfl rfl hl.1 rfl (lv_room (Nat.le_of_ble_eq_true rfl)) (D_184 W_prog_15_method_118_code_0 20 rfl rfl rfl) ⟨Nat.le_of_ble_eq_true rfl, Nat.le_of_ble_eq_true rfl⟩) hS (fun q _ h => zAin X hS q h) (zAin X hS) (fun p1 u1 t1 H1 locs1 ht1 hv1 hw1 hB1 hz1 hk1 hS1 => ?_)
    have hZ1 := zBack X ht1 hB1
    subst hw1
    obtain ⟨g2, hf⟩ := gif hf
    refine z0eq (tgt := 32) hx hb g2 (D_153 W_prog_15_method_118_code_0 23 rfl rfl rfl) (by decide) (fun h3 => ?_) (fun h3 => ?_)
    · replace hf := gpos hf h3
      refine lv_aload_n hx hb (D_43 W_prog_15_method_118_code_32 0 rfl rfl) rfl (lv_at hl 3 rfl) ?_
      obtain ⟨g4, hf⟩ := gif hf
      refine zget (ci := 13) (C := RX13) (T := TX13) (v := .ref (ad 13 l1 (14 + 1))) (k := 14) hx hb hts inW_13 hown hK hZ1 g4.1 g4.2 rfl (by decide) k_9_146 rfl (D_180 W_prog_15_method_118_code_32 1 rfl rfl rfl) ?_
      refine lv_iload hx hb (D_21 W_prog_15_method_118_code_32 4 rfl rfl) (lv_at hl 1 rfl) ?_
      obtain ⟨g5, hf⟩ := gif hf
      refine zlald (ci := 13) (k := 14) hx hb hK rfl hZ1 g4.1 g4.2 rfl (Nat.le_of_ble_eq_true rfl) g5.1 g5.2 (D_47 W_prog_15_method_118_code_32 6 rfl rfl) ?_
      refine lv_aload_n hx hb (D_43 W_prog_15_method_118_code_32 7 rfl rfl) rfl (lv_at hl 3 rfl) ?_
      refine zget (ci := 13) (C := RX13) (T := TX13) (v := .ref (ad 13 l1 (15 + 1))) (k := 15) hx hb hts inW_13 hown hK hZ1 g4.1 g4.2 rfl (by decide) k_9_148 rfl (D_180 W_prog_15_method_118_code_32 8 rfl rfl rfl) ?_
      refine lv_iload hx hb (D_21 W_prog_15_method_118_code_32 11 rfl rfl) (lv_at hl 1 rfl) ?_
      refine zlald (ci := 13) (k := 15) hx hb hK rfl hZ1 g4.1 g4.2 rfl (Nat.le_of_ble_eq_true rfl) g5.1 g5.2 (D_47 W_prog_15_method_118_code_32 13 rfl rfl) ?_
      obtain ⟨r6, F6, B6, hc6, hf⟩ := gbind hf
      refine va_calli (va_runS (As := [.long (lI (B1 13 l1 14 l6)), .long (lI (B1 13 l1 15 l6))]) (rest := []) ⟨hx, hb, hml, hown, hts⟩ (c_M_tick (l := l) hc6) (va_cwS 2 hts (gdS k_12_139 k_12_140 k_1_9 k_12_141) rfl rfl rfl (by decide +kernel) ⟨Nat.le_of_ble_eq_true rfl, Nat.le_of_ble_eq_true rfl⟩) (zPS X hZ1 hS1 [.long (lI (B1 13 l1 14 l6)), .long (lI (B1 13 l1 15 l6))]) rfl rfl hl.1 rfl (lv_room (Nat.le_of_ble_eq_true rfl)) (D_184 W_prog_15_method_118_code_32 14 rfl rfl rfl) ⟨Nat.le_of_ble_eq_true rfl, Nat.le_of_ble_eq_true rfl⟩) hS1 (fun q _ h => zAin X hS1 q h) (zAin X hS1) (fun p6 u6 t6 H6 locs6 ht6 hv6 hw6 hB6 hz6 hk6 hS6 => ?_)
      have hZ6 := zBack X ht6 hB6
      subst hw6
      refine lv_istore (lv' := [(8, .int (iI r6)), (7, .int (iI l7)), (6, .int (iI l6)), (0, .ref (ad 14 0 0)), (1, .ref (ad 13 l1 0)), (2, .int (iI l2)), (3, .int (iI l3)), (4, .int (iI l4)), (5, .int (iI l5))]) hx hb (D_54 W_prog_15_method_118_code_32 17 rfl rfl) hl (by decide) rfl (fun ls hl => ?_)
      refine lv_aload_n hx hb (D_42 W_prog_15_method_118_code_32 19 rfl rfl) rfl (lv_at hl 3 rfl) ?_
      refine lv_aload_n hx hb (D_43 W_prog_15_method_118_code_32 20 rfl rfl) rfl (lv_at hl 4 rfl) ?_
      refine lv_iload hx hb (D_21 W_prog_15_method_118_code_32 21 rfl rfl) (lv_at hl 1 rfl) ?_
      obtain ⟨r7, F7, B7, hc7, hf⟩ := gbind hf
      refine va_calli (va_runV (As := [.ref (ad 13 l1 0), .int (iI l7)]) (rest := []) ⟨hx, hb, hml, hown, hts⟩ (c_M_endTick (l := l) hc7) (cwV 2 hts (gdV k_12_143 k_12_145 ks_134 k_1_9 k_12_146) rfl rfl rfl (by decide +kernel) ⟨Nat.le_of_ble_eq_true rfl, Nat.le_of_ble_eq_true rfl⟩) (zPV X hZ6 hS6 (ci := 14) (by decide) (by decide) (r := (RX14, TX14, 107)) rfl [.ref (ad 13 l1 0), .int (iI l7)]) rfl rfl hl.1 rfl (lv_room (Nat.le_of_ble_eq_true rfl)) (D_182 W_prog_15_method_118_code_32 23 rfl rfl rfl) ⟨Nat.le_of_ble_eq_true rfl, Nat.le_of_ble_eq_true rfl⟩) hS6 (fun q _ h => zAin X hS6 q h) (zAin X hS6) (fun p7 u7 t7 H7 locs7 ht7 hv7 hw7 hB7 hz7 hk7 hS7 => ?_)
      have hZ7 := zBack X ht7 hB7
      subst hw7
      refine lv_iload hx hb (D_21 W_prog_15_method_118_code_32 26 rfl rfl) (lv_at hl 0 rfl) ?_
      refine zsub hx hb (D_100 W_prog_15_method_118_code_32 28 rfl rfl) ?_
      refine lv_istore (lv' := [(9, .int (iI (r7 - r6))), (8, .int (iI r6)), (7, .int (iI l7)), (6, .int (iI l6)), (0, .ref (ad 14 0 0)), (1, .ref (ad 13 l1 0)), (2, .int (iI l2)), (3, .int (iI l3)), (4, .int (iI l4)), (5, .int (iI l5))]) hx hb (D_54 W_prog_15_method_118_code_32 29 rfl rfl) hl (by decide) rfl (fun ls hl => ?_)
      refine lv_aload_n hx hb (D_43 W_prog_15_method_118_code_32 31 rfl rfl) rfl (lv_at hl 5 rfl) ?_
      refine zget (ci := 13) (C := RX13) (T := TX13) (v := .ref (ad 13 l1 (18 + 1))) (k := 18) hx hb hts inW_13 hown hK hZ7 g4.1 g4.2 rfl (by decide) k_9_154 rfl (D_180 W_prog_15_method_118_code_64 0 rfl rfl rfl) ?_
      refine lv_iload hx hb (D_21 W_prog_15_method_118_code_64 3 rfl rfl) (lv_at hl 2 rfl) ?_
      obtain ⟨g8, hf⟩ := gif hf
      refine zald (ci := 13) (k := 18) hx hb hK rfl hZ7 g4.1 g4.2 rfl (Nat.le_of_ble_eq_true rfl) g8.1 g8.2 (D_46 W_prog_15_method_118_code_64 5 rfl rfl) ?_
      refine lv_bipush (v := iI 8) hx hb (D_16 W_prog_15_method_118_code_64 6 rfl rfl rfl) (by decide) ?_
      refine zand_r hx hb (D_126 W_prog_15_method_118_code_64 8 rfl rfl) ?_
      obtain ⟨g9, hf⟩ := gif hf
      refine z0le (tgt := 80) hx hb g9 (D_158 W_prog_15_method_118_code_64 9 rfl rfl rfl) (by decide) (fun h10 => ?_) (fun h10 => ?_)
      · replace hf := gpos hf h10
        refine lv_iconst (v := iI 0) hx hb (D_3 W_prog_15_method_118_code_64 16 rfl rfl) rfl ?_
        exact b_M_plain_81 X hf hZ7 hS7 (lv_sub hl [0, 1, 2, 3, 4, 5, 6, 7, 8, 9] rfl)
      · replace hf := gneg hf h10
        refine lv_iconst (v := iI 1) hx hb (D_4 W_prog_15_method_118_code_64 12 rfl rfl) rfl ?_
        refine lv_goto (tgt := 81) hx hb (D_167 W_prog_15_method_118_code_64 13 rfl rfl rfl) (by decide) ?_
        exact b_M_plain_81 X hf hZ7 hS7 (lv_sub hl [0, 1, 2, 3, 4, 5, 6, 7, 8, 9] rfl)
    · replace hf := gneg hf h3
      refine lv_iinc (v := iI (l7 + 1)) (lv' := [(7, .int (iI (l7 + 1))), (6, .int (iI l6)), (0, .ref (ad 14 0 0)), (1, .ref (ad 13 l1 0)), (2, .int (iI l2)), (3, .int (iI l3)), (4, .int (iI l4)), (5, .int (iI l5))]) hx hb d_15_118_26 hl (k := 0) rfl (iI_add _ 1) (by decide) rfl (fun ls hl => ?_)
      refine lv_goto (tgt := 13) hx hb (D_167 W_prog_15_method_118_code_0 29 rfl rfl rfl) (by decide) ?_
      exact ih hf hZ1 hS1 (lv_sub hl [0, 1, 2, 3, 4, 5, 6, 7] rfl)

def f_M_plain (K : Nat) (l1 : Int) (l2 : Int) (l3 : Int) (l4 : Int) (l5 : Int) (F : zF) (B : zB) : zO := f_M_plain_13 K K ((1000 * l2) + l3) ((1000 * l2) + l3) l1 l2 l3 l4 l5 F B
set_option maxHeartbeats 4000000 in
set_option maxRecDepth 100000 in
theorem c_M_plain {l : Launch} {D : va_G} {ca : Nat → ClassId} {ad : Nat → Int → Nat → Nat} {L : List Nat} {aS vS : Nat → Nat} {sz K : Nat}  {l1 : Int} {l2 : Int} {l3 : Int} {l4 : Int} {l5 : Int} {F F9 : zF} {B B9 : zB} {r : Int} (hf : f_M_plain K l1 l2 l3 l4 l5 F B = some (r, F9, B9)) : Met l ({ cls := "StaveHouseModel", name := "plain", desc := "(LStaveHouseModel$Piece;IIII)V" } : Jvm.MethodName) (Cond.code ({ cls := "StaveHouseModel", name := "plain", desc := "(LStaveHouseModel$Piece;IIII)V" } : Jvm.MethodName) prog_15_method_118_code 14 (Option.none : Option Jvm.ClassFile.FieldType) :: wAll) ({ frames := 4, cells := 0, slots := 0, locals := 107 } : Room) (va_Pc [.ref (ad 14 0 0), .ref (ad 13 l1 0), .int (iI l2), .int (iI l3), .int (iI l4), .int (iI l5)] (zPre D ca ad lnM nM L aS vS F B sz)) (Q_M_plain D ca ad L r F9 B9 (zA L sz)) 0 0 (zA L sz) := by
  refine zMet (Qc := Q_M_plain D ca ad L r F9 B9) (lv := [(0, .ref (ad 14 0 0)), (1, .ref (ad 13 l1 0)), (2, .int (iI l2)), (3, .int (iI l3)), (4, .int (iI l4)), (5, .int (iI l5))]) (by decide) (Nat.le_of_ble_eq_true rfl) rfl (fun A p e s m below meth c ls X hZ hS hl => ?_)
  obtain ⟨hx, hb, hr, hml, hown, hts, hlk, hK, hA, hL, hX⟩ := id X
  replace hf : (f_M_plain_13 K K ((1000 * l2) + l3) ((1000 * l2) + l3) l1 l2 l3 l4 l5 F B) = some (r, F9, B9) := hf
  refine lv_sipush (v := iI 1000) hx hb (D_17 W_prog_15_method_118_code_0 0 rfl rfl rfl) (by decide) ?_
  refine lv_iload_n hx hb (D_28 W_prog_15_method_118_code_0 3 rfl rfl) rfl (lv_at hl 2 rfl) ?_
  refine zmul hx hb (D_104 W_prog_15_method_118_code_0 4 rfl rfl) ?_
  refine lv_iload_n hx hb (D_29 W_prog_15_method_118_code_0 5 rfl rfl) rfl (lv_at hl 3 rfl) ?_
  refine zadd hx hb (D_96 W_prog_15_method_118_code_0 6 rfl rfl) ?_
  refine lv_istore (lv' := [(6, .int (iI ((1000 * l2) + l3))), (0, .ref (ad 14 0 0)), (1, .ref (ad 13 l1 0)), (2, .int (iI l2)), (3, .int (iI l3)), (4, .int (iI l4)), (5, .int (iI l5))]) hx hb (D_54 W_prog_15_method_118_code_0 7 rfl rfl) hl (by decide) rfl (fun ls hl => ?_)
  refine lv_iload hx hb (D_21 W_prog_15_method_118_code_0 9 rfl rfl) (lv_at hl 0 rfl) ?_
  refine lv_istore (lv' := [(7, .int (iI ((1000 * l2) + l3))), (6, .int (iI ((1000 * l2) + l3))), (0, .ref (ad 14 0 0)), (1, .ref (ad 13 l1 0)), (2, .int (iI l2)), (3, .int (iI l3)), (4, .int (iI l4)), (5, .int (iI l5))]) hx hb (D_54 W_prog_15_method_118_code_0 11 rfl rfl) hl (by decide) rfl (fun ls hl => ?_)
  exact b_M_plain_13 X hf hZ hS (lv_sub hl [0, 1, 2, 3, 4, 5, 6, 7] rfl)

abbrev Q_M_file (D : va_G) (ca : Nat → ClassId) (ad : Nat → Int → Nat → Nat) (L : List Nat) (r : Int) (F : zF) (B : zB) (A : Nat → Prop) : Array Value → State → Outcome → State → Prop := va_Qi (S := Unit) (fun p _ => p = iI r) (fun _ => zPo D ca ad lnM nM L F B A) A
def f_M_file_291 (K : Nat) : Nat → Int → Int → zF → zB → zO
  | 0, _, _, _, _ => none
  | n + 1, l5, l2, F, B => if 0 ≤ l2 ∧ l2 < 3 then if r32 l5 then if r32 (F 13 l2 1) then (if (F 13 l2 1) ≤ l5 then some (F 14 0 71, F, B) else zbind (f_M_voiceTrack K l2 l5 F B) (fun r52 F52 B52 => f_M_file_291 K n (l5 + 1) l2 F52 B52)) else none else none else none
set_option maxHeartbeats 4000000 in
set_option maxRecDepth 100000 in
theorem b_M_file_291 {D : va_G} {ca : Nat → ClassId} {ad : Nat → Int → Nat → Nat} {L : List Nat} {aS vS : Nat → Nat} {A : Nat → Prop} {p : Program} {l : Launch} {e : Env} {s : State} {m : MethodId} {args : Array Value} {below : List Frame} {meth : Method} {c : Code} {K : Nat} {r : Int} {F9 : zF} {B9 : zB} (X : zX D ca L aS vS A p s m args meth c prog_15_method_129_code 6 (Option.some Jvm.ClassFile.FieldType.int) "StaveHouseModel") : ∀ {n : Nat} {l5 : Int} {l2 : Int} {F : zF} {B : zB} {H : Heap} {locs : List Loc} {ls : Array Slot}, f_M_file_291 K n l5 l2 F B = some (r, F9, B9) → zH D ca ad lnM nM L F B A H → va_S A s.heap H locs → lv_has ls 6 [(5, .int (iI l5)), (2, va_rf (zrf ad 13 l2)), (0, .ref (ad 14 0 0))] → W p l e ({ frames := 7, cells := 0, slots := 0, locals := 152 } : Room) s m args below meth c H locs 0 0 (MQ below (Q_M_file D ca ad L r F9 B9 A) args s 0 0 A) (F0 m 291 ls []) := by
  obtain ⟨hx, hb, hr, hml, hown, hts, hlk, hK, hA, hL, hX⟩ := id X
  intro n
  induction n with
  | zero =>
    intros
    rename_i hf _ _ _
    cases hf
  | succ n ih =>
    intro l5 l2 F B H locs ls hf hZ hS hl
    replace hf : (if 0 ≤ l2 ∧ l2 < 3 then if r32 l5 then if r32 (F 13 l2 1) then (if (F 13 l2 1) ≤ l5 then some (F 14 0 71, F, B) else zbind (f_M_voiceTrack K l2 l5 F B) (fun r52 F52 B52 => f_M_file_291 K n (l5 + 1) l2 F52 B52)) else none else none else none) = some (r, F9, B9) := hf
    refine lv_iload hx hb (D_21 W_prog_15_method_129_code_288 3 rfl rfl) (lv_at hl 0 rfl) ?_
    refine zaload_n hx hb (D_44 W_prog_15_method_129_code_288 5 rfl rfl) rfl (lv_at hl 1 rfl) ?_
    obtain ⟨g48, hf⟩ := gif hf
    refine zunrf g48.1 ?_
    refine zget (ci := 13) (C := RX13) (T := TX13) (v := .int (iI (F 13 l2 1))) (k := 1) hx hb hts inW_13 hown hK hZ g48.1 g48.2 rfl (by decide) k_9_126 rfl (D_180 W_prog_15_method_129_code_288 6 rfl rfl rfl) ?_
    obtain ⟨g49, hf⟩ := gif hf
    obtain ⟨g50, hf⟩ := gif hf
    refine zge (tgt := 313) hx hb g49 g50 (D_162 W_prog_15_method_129_code_288 9 rfl rfl rfl) (by decide) (fun h51 => ?_) (fun h51 => ?_)
    · replace hf := gpos hf h51
      refine lv_aload_n hx hb (D_42 W_prog_15_method_129_code_288 25 rfl rfl) rfl (lv_at hl 2 rfl) ?_
      refine zget (ci := 14) (C := RX14) (T := TX14) (v := .int (iI (F 14 0 71))) (k := 71) hx hb hts inW_14 hown hK hZ (by decide) (by decide) rfl (by decide) k_11_69 rfl (D_180 W_prog_15_method_129_code_288 26 rfl rfl rfl) ?_
      cases hf
      exact W.iret hx hb hr (fun t ht hW => ⟨⟨_, (), rfl, rfl, by rw [ht]; exact hZ, va_K.moved hW.alike hK⟩, hS.F ht⟩) hS.2.2 (D_172 W_prog_15_method_129_code_288 29 rfl rfl) hlk
    · replace hf := gneg hf h51
      refine lv_aload_n hx hb (D_42 W_prog_15_method_129_code_288 12 rfl rfl) rfl (lv_at hl 2 rfl) ?_
      refine zaload_n hx hb (D_44 W_prog_15_method_129_code_288 13 rfl rfl) rfl (lv_at hl 1 rfl) ?_
      refine lv_iload hx hb (D_21 W_prog_15_method_129_code_288 14 rfl rfl) (lv_at hl 0 rfl) ?_
      refine W.eq (g2 := F0 m 304 ls [.int (iI l5), .ref (ad 13 l2 0), .ref (ad 14 0 0)]) (by rw [zrf_pos (ad := ad) (t := 13) g48.1]; try rfl) ?_
      obtain ⟨r52, F52, B52, hc52, hf⟩ := gbind hf
      refine va_callv (va_runV (As := [.ref (ad 13 l2 0), .int (iI l5)]) (rest := []) ⟨hx, hb, hml, hown, hts⟩ (c_M_voiceTrack (l := l) hc52) (cwV 2 hts (gdV k_12_217 k_12_219 ks_146 k_1_9 k_12_220) rfl rfl rfl (by decide +kernel) ⟨Nat.le_of_ble_eq_true rfl, Nat.le_of_ble_eq_true rfl⟩) (zPV X hZ hS (ci := 14) (by decide) (by decide) (r := (RX14, TX14, 107)) rfl [.ref (ad 13 l2 0), .int (iI l5)]) rfl rfl hl.1 rfl (lv_room (Nat.le_of_ble_eq_true rfl)) (D_182 W_prog_15_method_129_code_288 16 rfl rfl rfl) ⟨Nat.le_of_ble_eq_true rfl, Nat.le_of_ble_eq_true rfl⟩) hS (fun q _ h => zAin X hS q h) (zAin X hS) (fun u52 t52 H52 locs52 ht52 hv52 hw52 hB52 hz52 hk52 hS52 => ?_)
      have hZ52 := zBack X ht52 hB52
      refine lv_iinc (v := iI (l5 + 1)) (lv' := [(5, .int (iI (l5 + 1))), (2, va_rf (zrf ad 13 l2)), (0, .ref (ad 14 0 0))]) hx hb d_15_129_307 hl (k := 0) rfl (iI_add _ 1) (by decide) rfl (fun ls hl => ?_)
      refine lv_goto (tgt := 291) hx hb (D_167 W_prog_15_method_129_code_288 22 rfl rfl rfl) (by decide) ?_
      exact ih hf hZ52 hS52 (lv_sub hl [0, 1, 2] rfl)

def f_M_file_211 (K : Nat) (l3 : Int) (l2 : Int) (s1 : Int) (F : zF) (B : zB) : zO := zbind (f_M_put_0 K s1 F B) (fun r37 F37 B37 => zbind (f_M_put_0 K 0 F37 B37) (fun r38 F38 B38 => zbind (f_M_put_0 K 255 F38 B38) (fun r39 F39 B39 => zbind (f_M_put_0 K 81 F39 B39) (fun r40 F40 B40 => zbind (f_M_put_0 K 3 F40 B40) (fun r41 F41 B41 => if 0 ≤ l2 ∧ l2 < 3 then if ¬ iI (F41 13 l2 6) = 0 then zbind (f_M_put_0 K (zand (zshr (zdv 60000000 (F41 13 l2 6)) 16) 255) F41 B41) (fun r44 F44 B44 => zbind (f_M_put_0 K (zand (zshr (zdv 60000000 (F41 13 l2 6)) 8) 255) F44 B44) (fun r45 F45 B45 => zbind (f_M_put_0 K (zand (zdv 60000000 (F41 13 l2 6)) 255) F45 B45) (fun r46 F46 B46 => zbind (f_M_endTrack K l3 F46 B46) (fun r47 F47 B47 => f_M_file_291 K K 0 l2 F47 B47)))) else none else none)))))
set_option maxHeartbeats 4000000 in
set_option maxRecDepth 100000 in
theorem b_M_file_211 {D : va_G} {ca : Nat → ClassId} {ad : Nat → Int → Nat → Nat} {L : List Nat} {aS vS : Nat → Nat} {A : Nat → Prop} {p : Program} {l : Launch} {e : Env} {s : State} {m : MethodId} {args : Array Value} {below : List Frame} {meth : Method} {c : Code} {K : Nat} {r : Int} {F9 : zF} {B9 : zB} (X : zX D ca L aS vS A p s m args meth c prog_15_method_129_code 6 (Option.some Jvm.ClassFile.FieldType.int) "StaveHouseModel") {l3 : Int} {l2 : Int} {s1 : Int} {F : zF} {B : zB} {H : Heap} {locs : List Loc} {ls : Array Slot} (hf : f_M_file_211 K l3 l2 s1 F B = some (r, F9, B9)) (hZ : zH D ca ad lnM nM L F B A H) (hS : va_S A s.heap H locs) (hl : lv_has ls 6 [(3, .int (iI l3)), (2, va_rf (zrf ad 13 l2)), (0, .ref (ad 14 0 0))]) : W p l e ({ frames := 7, cells := 0, slots := 0, locals := 152 } : Room) s m args below meth c H locs 0 0 (MQ below (Q_M_file D ca ad L r F9 B9 A) args s 0 0 A) (F0 m 211 ls [.int (iI s1), .ref (ad 14 0 0)]) := by
  obtain ⟨hx, hb, hr, hml, hown, hts, hlk, hK, hA, hL, hX⟩ := id X
  replace hf : (zbind (f_M_put_0 K s1 F B) (fun r37 F37 B37 => zbind (f_M_put_0 K 0 F37 B37) (fun r38 F38 B38 => zbind (f_M_put_0 K 255 F38 B38) (fun r39 F39 B39 => zbind (f_M_put_0 K 81 F39 B39) (fun r40 F40 B40 => zbind (f_M_put_0 K 3 F40 B40) (fun r41 F41 B41 => if 0 ≤ l2 ∧ l2 < 3 then if ¬ iI (F41 13 l2 6) = 0 then zbind (f_M_put_0 K (zand (zshr (zdv 60000000 (F41 13 l2 6)) 16) 255) F41 B41) (fun r44 F44 B44 => zbind (f_M_put_0 K (zand (zshr (zdv 60000000 (F41 13 l2 6)) 8) 255) F44 B44) (fun r45 F45 B45 => zbind (f_M_put_0 K (zand (zdv 60000000 (F41 13 l2 6)) 255) F45 B45) (fun r46 F46 B46 => zbind (f_M_endTrack K l3 F46 B46) (fun r47 F47 B47 => f_M_file_291 K K 0 l2 F47 B47)))) else none else none)))))) = some (r, F9, B9) := hf
  obtain ⟨r37, F37, B37, hc37, hf⟩ := gbind hf
  refine va_callv (va_runV (As := [.int (iI s1)]) (rest := []) ⟨hx, hb, hml, hown, hts⟩ (c_M_put_0 (l := l) hc37) (cwV 1 hts (gdV k_12_199 k_12_201 ks_142 k_1_9 k_12_202) rfl rfl rfl (by decide +kernel) ⟨Nat.le_of_ble_eq_true rfl, Nat.le_of_ble_eq_true rfl⟩) (zPV X hZ hS (ci := 14) (by decide) (by decide) (r := (RX14, TX14, 107)) rfl [.int (iI s1)]) rfl rfl hl.1 rfl (lv_room (Nat.le_of_ble_eq_true rfl)) (D_182 W_prog_15_method_129_code_192 19 rfl rfl rfl) ⟨Nat.le_of_ble_eq_true rfl, Nat.le_of_ble_eq_true rfl⟩) hS (fun q _ h => zAin X hS q h) (zAin X hS) (fun u37 t37 H37 locs37 ht37 hv37 hw37 hB37 hz37 hk37 hS37 => ?_)
  have hZ37 := zBack X ht37 hB37
  refine lv_aload_n hx hb (D_42 W_prog_15_method_129_code_192 22 rfl rfl) rfl (lv_at hl 2 rfl) ?_
  refine lv_iconst (v := iI 0) hx hb (D_3 W_prog_15_method_129_code_192 23 rfl rfl) rfl ?_
  obtain ⟨r38, F38, B38, hc38, hf⟩ := gbind hf
  refine va_callv (va_runV (As := [.int (iI 0)]) (rest := []) ⟨hx, hb, hml, hown, hts⟩ (c_M_put_0 (l := l) hc38) (cwV 1 hts (gdV k_12_199 k_12_201 ks_142 k_1_9 k_12_202) rfl rfl rfl (by decide +kernel) ⟨Nat.le_of_ble_eq_true rfl, Nat.le_of_ble_eq_true rfl⟩) (zPV X hZ37 hS37 (ci := 14) (by decide) (by decide) (r := (RX14, TX14, 107)) rfl [.int (iI 0)]) rfl rfl hl.1 rfl (lv_room (Nat.le_of_ble_eq_true rfl)) (D_182 W_prog_15_method_129_code_192 24 rfl rfl rfl) ⟨Nat.le_of_ble_eq_true rfl, Nat.le_of_ble_eq_true rfl⟩) hS37 (fun q _ h => zAin X hS37 q h) (zAin X hS37) (fun u38 t38 H38 locs38 ht38 hv38 hw38 hB38 hz38 hk38 hS38 => ?_)
  have hZ38 := zBack X ht38 hB38
  refine lv_aload_n hx hb (D_42 W_prog_15_method_129_code_192 27 rfl rfl) rfl (lv_at hl 2 rfl) ?_
  refine lv_sipush (v := iI 255) hx hb (D_17 W_prog_15_method_129_code_192 28 rfl rfl rfl) (by decide) ?_
  obtain ⟨r39, F39, B39, hc39, hf⟩ := gbind hf
  refine va_callv (va_runV (As := [.int (iI 255)]) (rest := []) ⟨hx, hb, hml, hown, hts⟩ (c_M_put_0 (l := l) hc39) (cwV 1 hts (gdV k_12_199 k_12_201 ks_142 k_1_9 k_12_202) rfl rfl rfl (by decide +kernel) ⟨Nat.le_of_ble_eq_true rfl, Nat.le_of_ble_eq_true rfl⟩) (zPV X hZ38 hS38 (ci := 14) (by decide) (by decide) (r := (RX14, TX14, 107)) rfl [.int (iI 255)]) rfl rfl hl.1 rfl (lv_room (Nat.le_of_ble_eq_true rfl)) (D_182 W_prog_15_method_129_code_192 31 rfl rfl rfl) ⟨Nat.le_of_ble_eq_true rfl, Nat.le_of_ble_eq_true rfl⟩) hS38 (fun q _ h => zAin X hS38 q h) (zAin X hS38) (fun u39 t39 H39 locs39 ht39 hv39 hw39 hB39 hz39 hk39 hS39 => ?_)
  have hZ39 := zBack X ht39 hB39
  refine lv_aload_n hx hb (D_42 W_prog_15_method_129_code_224 2 rfl rfl) rfl (lv_at hl 2 rfl) ?_
  refine lv_bipush (v := iI 81) hx hb (D_16 W_prog_15_method_129_code_224 3 rfl rfl rfl) (by decide) ?_
  obtain ⟨r40, F40, B40, hc40, hf⟩ := gbind hf
  refine va_callv (va_runV (As := [.int (iI 81)]) (rest := []) ⟨hx, hb, hml, hown, hts⟩ (c_M_put_0 (l := l) hc40) (cwV 1 hts (gdV k_12_199 k_12_201 ks_142 k_1_9 k_12_202) rfl rfl rfl (by decide +kernel) ⟨Nat.le_of_ble_eq_true rfl, Nat.le_of_ble_eq_true rfl⟩) (zPV X hZ39 hS39 (ci := 14) (by decide) (by decide) (r := (RX14, TX14, 107)) rfl [.int (iI 81)]) rfl rfl hl.1 rfl (lv_room (Nat.le_of_ble_eq_true rfl)) (D_182 W_prog_15_method_129_code_224 5 rfl rfl rfl) ⟨Nat.le_of_ble_eq_true rfl, Nat.le_of_ble_eq_true rfl⟩) hS39 (fun q _ h => zAin X hS39 q h) (zAin X hS39) (fun u40 t40 H40 locs40 ht40 hv40 hw40 hB40 hz40 hk40 hS40 => ?_)
  have hZ40 := zBack X ht40 hB40
  refine lv_aload_n hx hb (D_42 W_prog_15_method_129_code_224 8 rfl rfl) rfl (lv_at hl 2 rfl) ?_
  refine lv_iconst (v := iI 3) hx hb (D_6 W_prog_15_method_129_code_224 9 rfl rfl) rfl ?_
  obtain ⟨r41, F41, B41, hc41, hf⟩ := gbind hf
  refine va_callv (va_runV (As := [.int (iI 3)]) (rest := []) ⟨hx, hb, hml, hown, hts⟩ (c_M_put_0 (l := l) hc41) (cwV 1 hts (gdV k_12_199 k_12_201 ks_142 k_1_9 k_12_202) rfl rfl rfl (by decide +kernel) ⟨Nat.le_of_ble_eq_true rfl, Nat.le_of_ble_eq_true rfl⟩) (zPV X hZ40 hS40 (ci := 14) (by decide) (by decide) (r := (RX14, TX14, 107)) rfl [.int (iI 3)]) rfl rfl hl.1 rfl (lv_room (Nat.le_of_ble_eq_true rfl)) (D_182 W_prog_15_method_129_code_224 10 rfl rfl rfl) ⟨Nat.le_of_ble_eq_true rfl, Nat.le_of_ble_eq_true rfl⟩) hS40 (fun q _ h => zAin X hS40 q h) (zAin X hS40) (fun u41 t41 H41 locs41 ht41 hv41 hw41 hB41 hz41 hk41 hS41 => ?_)
  have hZ41 := zBack X ht41 hB41
  refine lv_ldcw hx hb hown (hts _ k_12_212) (D_19 W_prog_15_method_129_code_224 13 rfl rfl rfl) ?_
  refine W.eq (g2 := F0 m 240 ls [.int (iI 60000000)]) rfl ?_
  refine zaload_n hx hb (D_44 W_prog_15_method_129_code_224 16 rfl rfl) rfl (lv_at hl 1 rfl) ?_
  obtain ⟨g42, hf⟩ := gif hf
  refine zunrf g42.1 ?_
  refine zget (ci := 13) (C := RX13) (T := TX13) (v := .int (iI (F41 13 l2 6))) (k := 6) hx hb hts inW_13 hown hK hZ41 g42.1 g42.2 rfl (by decide) k_9_131 rfl (D_180 W_prog_15_method_129_code_224 17 rfl rfl rfl) ?_
  obtain ⟨g43, hf⟩ := gif hf
  refine zdv_r hx hb g43 (D_108 W_prog_15_method_129_code_224 20 rfl rfl) ?_
  refine lv_istore (lv' := [(4, .int (iI (zdv 60000000 (F41 13 l2 6)))), (3, .int (iI l3)), (2, va_rf (zrf ad 13 l2)), (0, .ref (ad 14 0 0))]) hx hb (D_54 W_prog_15_method_129_code_224 21 rfl rfl) hl (by decide) rfl (fun ls hl => ?_)
  refine lv_aload_n hx hb (D_42 W_prog_15_method_129_code_224 23 rfl rfl) rfl (lv_at hl 3 rfl) ?_
  refine lv_iload hx hb (D_21 W_prog_15_method_129_code_224 24 rfl rfl) (lv_at hl 0 rfl) ?_
  refine lv_bipush (v := iI 16) hx hb (D_16 W_prog_15_method_129_code_224 26 rfl rfl rfl) (by decide) ?_
  refine zshr_r hx hb (D_122 W_prog_15_method_129_code_224 28 rfl rfl) ?_
  refine lv_sipush (v := iI 255) hx hb (D_17 W_prog_15_method_129_code_224 29 rfl rfl rfl) (by decide) ?_
  refine zand_r hx hb (D_126 W_prog_15_method_129_code_256 0 rfl rfl) ?_
  obtain ⟨r44, F44, B44, hc44, hf⟩ := gbind hf
  refine va_callv (va_runV (As := [.int (iI (zand (zshr (zdv 60000000 (F41 13 l2 6)) 16) 255))]) (rest := []) ⟨hx, hb, hml, hown, hts⟩ (c_M_put_0 (l := l) hc44) (cwV 1 hts (gdV k_12_199 k_12_201 ks_142 k_1_9 k_12_202) rfl rfl rfl (by decide +kernel) ⟨Nat.le_of_ble_eq_true rfl, Nat.le_of_ble_eq_true rfl⟩) (zPV X hZ41 hS41 (ci := 14) (by decide) (by decide) (r := (RX14, TX14, 107)) rfl [.int (iI (zand (zshr (zdv 60000000 (F41 13 l2 6)) 16) 255))]) rfl rfl hl.1 rfl (lv_room (Nat.le_of_ble_eq_true rfl)) (D_182 W_prog_15_method_129_code_256 1 rfl rfl rfl) ⟨Nat.le_of_ble_eq_true rfl, Nat.le_of_ble_eq_true rfl⟩) hS41 (fun q _ h => zAin X hS41 q h) (zAin X hS41) (fun u44 t44 H44 locs44 ht44 hv44 hw44 hB44 hz44 hk44 hS44 => ?_)
  have hZ44 := zBack X ht44 hB44
  refine lv_aload_n hx hb (D_42 W_prog_15_method_129_code_256 4 rfl rfl) rfl (lv_at hl 3 rfl) ?_
  refine lv_iload hx hb (D_21 W_prog_15_method_129_code_256 5 rfl rfl) (lv_at hl 0 rfl) ?_
  refine lv_bipush (v := iI 8) hx hb (D_16 W_prog_15_method_129_code_256 7 rfl rfl rfl) (by decide) ?_
  refine zshr_r hx hb (D_122 W_prog_15_method_129_code_256 9 rfl rfl) ?_
  refine lv_sipush (v := iI 255) hx hb (D_17 W_prog_15_method_129_code_256 10 rfl rfl rfl) (by decide) ?_
  refine zand_r hx hb (D_126 W_prog_15_method_129_code_256 13 rfl rfl) ?_
  obtain ⟨r45, F45, B45, hc45, hf⟩ := gbind hf
  refine va_callv (va_runV (As := [.int (iI (zand (zshr (zdv 60000000 (F41 13 l2 6)) 8) 255))]) (rest := []) ⟨hx, hb, hml, hown, hts⟩ (c_M_put_0 (l := l) hc45) (cwV 1 hts (gdV k_12_199 k_12_201 ks_142 k_1_9 k_12_202) rfl rfl rfl (by decide +kernel) ⟨Nat.le_of_ble_eq_true rfl, Nat.le_of_ble_eq_true rfl⟩) (zPV X hZ44 hS44 (ci := 14) (by decide) (by decide) (r := (RX14, TX14, 107)) rfl [.int (iI (zand (zshr (zdv 60000000 (F41 13 l2 6)) 8) 255))]) rfl rfl hl.1 rfl (lv_room (Nat.le_of_ble_eq_true rfl)) (D_182 W_prog_15_method_129_code_256 14 rfl rfl rfl) ⟨Nat.le_of_ble_eq_true rfl, Nat.le_of_ble_eq_true rfl⟩) hS44 (fun q _ h => zAin X hS44 q h) (zAin X hS44) (fun u45 t45 H45 locs45 ht45 hv45 hw45 hB45 hz45 hk45 hS45 => ?_)
  have hZ45 := zBack X ht45 hB45
  refine lv_aload_n hx hb (D_42 W_prog_15_method_129_code_256 17 rfl rfl) rfl (lv_at hl 3 rfl) ?_
  refine lv_iload hx hb (D_21 W_prog_15_method_129_code_256 18 rfl rfl) (lv_at hl 0 rfl) ?_
  refine lv_sipush (v := iI 255) hx hb (D_17 W_prog_15_method_129_code_256 20 rfl rfl rfl) (by decide) ?_
  refine zand_r hx hb (D_126 W_prog_15_method_129_code_256 23 rfl rfl) ?_
  obtain ⟨r46, F46, B46, hc46, hf⟩ := gbind hf
  refine va_callv (va_runV (As := [.int (iI (zand (zdv 60000000 (F41 13 l2 6)) 255))]) (rest := []) ⟨hx, hb, hml, hown, hts⟩ (c_M_put_0 (l := l) hc46) (cwV 1 hts (gdV k_12_199 k_12_201 ks_142 k_1_9 k_12_202) rfl rfl rfl (by decide +kernel) ⟨Nat.le_of_ble_eq_true rfl, Nat.le_of_ble_eq_true rfl⟩) (zPV X hZ45 hS45 (ci := 14) (by decide) (by decide) (r := (RX14, TX14, 107)) rfl [.int (iI (zand (zdv 60000000 (F41 13 l2 6)) 255))]) rfl rfl hl.1 rfl (lv_room (Nat.le_of_ble_eq_true rfl)) (D_182 W_prog_15_method_129_code_256 24 rfl rfl rfl) ⟨Nat.le_of_ble_eq_true rfl, Nat.le_of_ble_eq_true rfl⟩) hS45 (fun q _ h => zAin X hS45 q h) (zAin X hS45) (fun u46 t46 H46 locs46 ht46 hv46 hw46 hB46 hz46 hk46 hS46 => ?_)
  have hZ46 := zBack X ht46 hB46
  refine lv_aload_n hx hb (D_42 W_prog_15_method_129_code_256 27 rfl rfl) rfl (lv_at hl 3 rfl) ?_
  refine lv_iload_n hx hb (D_29 W_prog_15_method_129_code_256 28 rfl rfl) rfl (lv_at hl 1 rfl) ?_
  obtain ⟨r47, F47, B47, hc47, hf⟩ := gbind hf
  refine va_callv (va_runV (As := [.int (iI l3)]) (rest := []) ⟨hx, hb, hml, hown, hts⟩ (c_M_endTrack (l := l) hc47) (cwV 1 hts (gdV k_12_213 k_12_215 ks_145 k_1_9 k_12_216) rfl rfl rfl (by decide +kernel) ⟨Nat.le_of_ble_eq_true rfl, Nat.le_of_ble_eq_true rfl⟩) (zPV X hZ46 hS46 (ci := 14) (by decide) (by decide) (r := (RX14, TX14, 107)) rfl [.int (iI l3)]) rfl rfl hl.1 rfl (lv_room (Nat.le_of_ble_eq_true rfl)) (D_182 W_prog_15_method_129_code_256 29 rfl rfl rfl) ⟨Nat.le_of_ble_eq_true rfl, Nat.le_of_ble_eq_true rfl⟩) hS46 (fun q _ h => zAin X hS46 q h) (zAin X hS46) (fun u47 t47 H47 locs47 ht47 hv47 hw47 hB47 hz47 hk47 hS47 => ?_)
  have hZ47 := zBack X ht47 hB47
  refine lv_iconst (v := iI 0) hx hb (D_3 W_prog_15_method_129_code_288 0 rfl rfl) rfl ?_
  refine lv_istore (lv' := [(5, .int (iI 0)), (4, .int (iI (zdv 60000000 (F41 13 l2 6)))), (3, .int (iI l3)), (2, va_rf (zrf ad 13 l2)), (0, .ref (ad 14 0 0))]) hx hb (D_54 W_prog_15_method_129_code_288 1 rfl rfl) hl (by decide) rfl (fun ls hl => ?_)
  exact b_M_file_291 X hf hZ47 hS47 (lv_sub hl [0, 3, 4] rfl)

def f_M_file_148 (K : Nat) (l3 : Int) (l2 : Int) (s1 : Int) (F : zF) (B : zB) : zO := zbind (f_M_put_0 K s1 F B) (fun r25 F25 B25 => zbind (f_M_put_0 K 24 F25 B25) (fun r26 F26 B26 => zbind (f_M_put_0 K 8 F26 B26) (fun r27 F27 B27 => zbind (f_M_put_0 K 0 F27 B27) (fun r28 F28 B28 => zbind (f_M_put_0 K 255 F28 B28) (fun r29 F29 B29 => zbind (f_M_put_0 K 89 F29 B29) (fun r30 F30 B30 => zbind (f_M_put_0 K 2 F30 B30) (fun r31 F31 B31 => if 0 ≤ l2 ∧ l2 < 3 then zbind (f_M_put_0 K (zand (F31 13 l2 2) 255) F31 B31) (fun r34 F34 B34 => if r32 (F34 13 l2 3) then (if (F34 13 l2 3) = 0 then f_M_file_211 K l3 l2 0 F34 B34 else f_M_file_211 K l3 l2 1 F34 B34) else none) else none)))))))
set_option maxHeartbeats 4000000 in
set_option maxRecDepth 100000 in
theorem b_M_file_148 {D : va_G} {ca : Nat → ClassId} {ad : Nat → Int → Nat → Nat} {L : List Nat} {aS vS : Nat → Nat} {A : Nat → Prop} {p : Program} {l : Launch} {e : Env} {s : State} {m : MethodId} {args : Array Value} {below : List Frame} {meth : Method} {c : Code} {K : Nat} {r : Int} {F9 : zF} {B9 : zB} (X : zX D ca L aS vS A p s m args meth c prog_15_method_129_code 6 (Option.some Jvm.ClassFile.FieldType.int) "StaveHouseModel") {l3 : Int} {l2 : Int} {s1 : Int} {F : zF} {B : zB} {H : Heap} {locs : List Loc} {ls : Array Slot} (hf : f_M_file_148 K l3 l2 s1 F B = some (r, F9, B9)) (hZ : zH D ca ad lnM nM L F B A H) (hS : va_S A s.heap H locs) (hl : lv_has ls 6 [(3, .int (iI l3)), (2, va_rf (zrf ad 13 l2)), (0, .ref (ad 14 0 0))]) : W p l e ({ frames := 7, cells := 0, slots := 0, locals := 152 } : Room) s m args below meth c H locs 0 0 (MQ below (Q_M_file D ca ad L r F9 B9 A) args s 0 0 A) (F0 m 148 ls [.int (iI s1), .ref (ad 14 0 0)]) := by
  obtain ⟨hx, hb, hr, hml, hown, hts, hlk, hK, hA, hL, hX⟩ := id X
  replace hf : (zbind (f_M_put_0 K s1 F B) (fun r25 F25 B25 => zbind (f_M_put_0 K 24 F25 B25) (fun r26 F26 B26 => zbind (f_M_put_0 K 8 F26 B26) (fun r27 F27 B27 => zbind (f_M_put_0 K 0 F27 B27) (fun r28 F28 B28 => zbind (f_M_put_0 K 255 F28 B28) (fun r29 F29 B29 => zbind (f_M_put_0 K 89 F29 B29) (fun r30 F30 B30 => zbind (f_M_put_0 K 2 F30 B30) (fun r31 F31 B31 => if 0 ≤ l2 ∧ l2 < 3 then zbind (f_M_put_0 K (zand (F31 13 l2 2) 255) F31 B31) (fun r34 F34 B34 => if r32 (F34 13 l2 3) then (if (F34 13 l2 3) = 0 then f_M_file_211 K l3 l2 0 F34 B34 else f_M_file_211 K l3 l2 1 F34 B34) else none) else none)))))))) = some (r, F9, B9) := hf
  obtain ⟨r25, F25, B25, hc25, hf⟩ := gbind hf
  refine va_callv (va_runV (As := [.int (iI s1)]) (rest := []) ⟨hx, hb, hml, hown, hts⟩ (c_M_put_0 (l := l) hc25) (cwV 1 hts (gdV k_12_199 k_12_201 ks_142 k_1_9 k_12_202) rfl rfl rfl (by decide +kernel) ⟨Nat.le_of_ble_eq_true rfl, Nat.le_of_ble_eq_true rfl⟩) (zPV X hZ hS (ci := 14) (by decide) (by decide) (r := (RX14, TX14, 107)) rfl [.int (iI s1)]) rfl rfl hl.1 rfl (lv_room (Nat.le_of_ble_eq_true rfl)) (D_182 W_prog_15_method_129_code_128 20 rfl rfl rfl) ⟨Nat.le_of_ble_eq_true rfl, Nat.le_of_ble_eq_true rfl⟩) hS (fun q _ h => zAin X hS q h) (zAin X hS) (fun u25 t25 H25 locs25 ht25 hv25 hw25 hB25 hz25 hk25 hS25 => ?_)
  have hZ25 := zBack X ht25 hB25
  refine lv_aload_n hx hb (D_42 W_prog_15_method_129_code_128 23 rfl rfl) rfl (lv_at hl 2 rfl) ?_
  refine lv_bipush (v := iI 24) hx hb (D_16 W_prog_15_method_129_code_128 24 rfl rfl rfl) (by decide) ?_
  obtain ⟨r26, F26, B26, hc26, hf⟩ := gbind hf
  refine va_callv (va_runV (As := [.int (iI 24)]) (rest := []) ⟨hx, hb, hml, hown, hts⟩ (c_M_put_0 (l := l) hc26) (cwV 1 hts (gdV k_12_199 k_12_201 ks_142 k_1_9 k_12_202) rfl rfl rfl (by decide +kernel) ⟨Nat.le_of_ble_eq_true rfl, Nat.le_of_ble_eq_true rfl⟩) (zPV X hZ25 hS25 (ci := 14) (by decide) (by decide) (r := (RX14, TX14, 107)) rfl [.int (iI 24)]) rfl rfl hl.1 rfl (lv_room (Nat.le_of_ble_eq_true rfl)) (D_182 W_prog_15_method_129_code_128 26 rfl rfl rfl) ⟨Nat.le_of_ble_eq_true rfl, Nat.le_of_ble_eq_true rfl⟩) hS25 (fun q _ h => zAin X hS25 q h) (zAin X hS25) (fun u26 t26 H26 locs26 ht26 hv26 hw26 hB26 hz26 hk26 hS26 => ?_)
  have hZ26 := zBack X ht26 hB26
  refine lv_aload_n hx hb (D_42 W_prog_15_method_129_code_128 29 rfl rfl) rfl (lv_at hl 2 rfl) ?_
  refine lv_bipush (v := iI 8) hx hb (D_16 W_prog_15_method_129_code_128 30 rfl rfl rfl) (by decide) ?_
  obtain ⟨r27, F27, B27, hc27, hf⟩ := gbind hf
  refine va_callv (va_runV (As := [.int (iI 8)]) (rest := []) ⟨hx, hb, hml, hown, hts⟩ (c_M_put_0 (l := l) hc27) (cwV 1 hts (gdV k_12_199 k_12_201 ks_142 k_1_9 k_12_202) rfl rfl rfl (by decide +kernel) ⟨Nat.le_of_ble_eq_true rfl, Nat.le_of_ble_eq_true rfl⟩) (zPV X hZ26 hS26 (ci := 14) (by decide) (by decide) (r := (RX14, TX14, 107)) rfl [.int (iI 8)]) rfl rfl hl.1 rfl (lv_room (Nat.le_of_ble_eq_true rfl)) (D_182 W_prog_15_method_129_code_160 0 rfl rfl rfl) ⟨Nat.le_of_ble_eq_true rfl, Nat.le_of_ble_eq_true rfl⟩) hS26 (fun q _ h => zAin X hS26 q h) (zAin X hS26) (fun u27 t27 H27 locs27 ht27 hv27 hw27 hB27 hz27 hk27 hS27 => ?_)
  have hZ27 := zBack X ht27 hB27
  refine lv_aload_n hx hb (D_42 W_prog_15_method_129_code_160 3 rfl rfl) rfl (lv_at hl 2 rfl) ?_
  refine lv_iconst (v := iI 0) hx hb (D_3 W_prog_15_method_129_code_160 4 rfl rfl) rfl ?_
  obtain ⟨r28, F28, B28, hc28, hf⟩ := gbind hf
  refine va_callv (va_runV (As := [.int (iI 0)]) (rest := []) ⟨hx, hb, hml, hown, hts⟩ (c_M_put_0 (l := l) hc28) (cwV 1 hts (gdV k_12_199 k_12_201 ks_142 k_1_9 k_12_202) rfl rfl rfl (by decide +kernel) ⟨Nat.le_of_ble_eq_true rfl, Nat.le_of_ble_eq_true rfl⟩) (zPV X hZ27 hS27 (ci := 14) (by decide) (by decide) (r := (RX14, TX14, 107)) rfl [.int (iI 0)]) rfl rfl hl.1 rfl (lv_room (Nat.le_of_ble_eq_true rfl)) (D_182 W_prog_15_method_129_code_160 5 rfl rfl rfl) ⟨Nat.le_of_ble_eq_true rfl, Nat.le_of_ble_eq_true rfl⟩) hS27 (fun q _ h => zAin X hS27 q h) (zAin X hS27) (fun u28 t28 H28 locs28 ht28 hv28 hw28 hB28 hz28 hk28 hS28 => ?_)
  have hZ28 := zBack X ht28 hB28
  refine lv_aload_n hx hb (D_42 W_prog_15_method_129_code_160 8 rfl rfl) rfl (lv_at hl 2 rfl) ?_
  refine lv_sipush (v := iI 255) hx hb (D_17 W_prog_15_method_129_code_160 9 rfl rfl rfl) (by decide) ?_
  obtain ⟨r29, F29, B29, hc29, hf⟩ := gbind hf
  refine va_callv (va_runV (As := [.int (iI 255)]) (rest := []) ⟨hx, hb, hml, hown, hts⟩ (c_M_put_0 (l := l) hc29) (cwV 1 hts (gdV k_12_199 k_12_201 ks_142 k_1_9 k_12_202) rfl rfl rfl (by decide +kernel) ⟨Nat.le_of_ble_eq_true rfl, Nat.le_of_ble_eq_true rfl⟩) (zPV X hZ28 hS28 (ci := 14) (by decide) (by decide) (r := (RX14, TX14, 107)) rfl [.int (iI 255)]) rfl rfl hl.1 rfl (lv_room (Nat.le_of_ble_eq_true rfl)) (D_182 W_prog_15_method_129_code_160 12 rfl rfl rfl) ⟨Nat.le_of_ble_eq_true rfl, Nat.le_of_ble_eq_true rfl⟩) hS28 (fun q _ h => zAin X hS28 q h) (zAin X hS28) (fun u29 t29 H29 locs29 ht29 hv29 hw29 hB29 hz29 hk29 hS29 => ?_)
  have hZ29 := zBack X ht29 hB29
  refine lv_aload_n hx hb (D_42 W_prog_15_method_129_code_160 15 rfl rfl) rfl (lv_at hl 2 rfl) ?_
  refine lv_bipush (v := iI 89) hx hb (D_16 W_prog_15_method_129_code_160 16 rfl rfl rfl) (by decide) ?_
  obtain ⟨r30, F30, B30, hc30, hf⟩ := gbind hf
  refine va_callv (va_runV (As := [.int (iI 89)]) (rest := []) ⟨hx, hb, hml, hown, hts⟩ (c_M_put_0 (l := l) hc30) (cwV 1 hts (gdV k_12_199 k_12_201 ks_142 k_1_9 k_12_202) rfl rfl rfl (by decide +kernel) ⟨Nat.le_of_ble_eq_true rfl, Nat.le_of_ble_eq_true rfl⟩) (zPV X hZ29 hS29 (ci := 14) (by decide) (by decide) (r := (RX14, TX14, 107)) rfl [.int (iI 89)]) rfl rfl hl.1 rfl (lv_room (Nat.le_of_ble_eq_true rfl)) (D_182 W_prog_15_method_129_code_160 18 rfl rfl rfl) ⟨Nat.le_of_ble_eq_true rfl, Nat.le_of_ble_eq_true rfl⟩) hS29 (fun q _ h => zAin X hS29 q h) (zAin X hS29) (fun u30 t30 H30 locs30 ht30 hv30 hw30 hB30 hz30 hk30 hS30 => ?_)
  have hZ30 := zBack X ht30 hB30
  refine lv_aload_n hx hb (D_42 W_prog_15_method_129_code_160 21 rfl rfl) rfl (lv_at hl 2 rfl) ?_
  refine lv_iconst (v := iI 2) hx hb (D_5 W_prog_15_method_129_code_160 22 rfl rfl) rfl ?_
  obtain ⟨r31, F31, B31, hc31, hf⟩ := gbind hf
  refine va_callv (va_runV (As := [.int (iI 2)]) (rest := []) ⟨hx, hb, hml, hown, hts⟩ (c_M_put_0 (l := l) hc31) (cwV 1 hts (gdV k_12_199 k_12_201 ks_142 k_1_9 k_12_202) rfl rfl rfl (by decide +kernel) ⟨Nat.le_of_ble_eq_true rfl, Nat.le_of_ble_eq_true rfl⟩) (zPV X hZ30 hS30 (ci := 14) (by decide) (by decide) (r := (RX14, TX14, 107)) rfl [.int (iI 2)]) rfl rfl hl.1 rfl (lv_room (Nat.le_of_ble_eq_true rfl)) (D_182 W_prog_15_method_129_code_160 23 rfl rfl rfl) ⟨Nat.le_of_ble_eq_true rfl, Nat.le_of_ble_eq_true rfl⟩) hS30 (fun q _ h => zAin X hS30 q h) (zAin X hS30) (fun u31 t31 H31 locs31 ht31 hv31 hw31 hB31 hz31 hk31 hS31 => ?_)
  have hZ31 := zBack X ht31 hB31
  refine lv_aload_n hx hb (D_42 W_prog_15_method_129_code_160 26 rfl rfl) rfl (lv_at hl 2 rfl) ?_
  refine zaload_n hx hb (D_44 W_prog_15_method_129_code_160 27 rfl rfl) rfl (lv_at hl 1 rfl) ?_
  obtain ⟨g33, hf⟩ := gif hf
  refine zunrf g33.1 ?_
  refine zget (ci := 13) (C := RX13) (T := TX13) (v := .int (iI (F31 13 l2 2))) (k := 2) hx hb hts inW_13 hown hK hZ31 g33.1 g33.2 rfl (by decide) k_9_127 rfl (D_180 W_prog_15_method_129_code_160 28 rfl rfl rfl) ?_
  refine lv_sipush (v := iI 255) hx hb (D_17 W_prog_15_method_129_code_160 31 rfl rfl rfl) (by decide) ?_
  refine zand_r hx hb (D_126 W_prog_15_method_129_code_192 2 rfl rfl) ?_
  obtain ⟨r34, F34, B34, hc34, hf⟩ := gbind hf
  refine va_callv (va_runV (As := [.int (iI (zand (F31 13 l2 2) 255))]) (rest := []) ⟨hx, hb, hml, hown, hts⟩ (c_M_put_0 (l := l) hc34) (cwV 1 hts (gdV k_12_199 k_12_201 ks_142 k_1_9 k_12_202) rfl rfl rfl (by decide +kernel) ⟨Nat.le_of_ble_eq_true rfl, Nat.le_of_ble_eq_true rfl⟩) (zPV X hZ31 hS31 (ci := 14) (by decide) (by decide) (r := (RX14, TX14, 107)) rfl [.int (iI (zand (F31 13 l2 2) 255))]) rfl rfl hl.1 rfl (lv_room (Nat.le_of_ble_eq_true rfl)) (D_182 W_prog_15_method_129_code_192 3 rfl rfl rfl) ⟨Nat.le_of_ble_eq_true rfl, Nat.le_of_ble_eq_true rfl⟩) hS31 (fun q _ h => zAin X hS31 q h) (zAin X hS31) (fun u34 t34 H34 locs34 ht34 hv34 hw34 hB34 hz34 hk34 hS34 => ?_)
  have hZ34 := zBack X ht34 hB34
  refine lv_aload_n hx hb (D_42 W_prog_15_method_129_code_192 6 rfl rfl) rfl (lv_at hl 2 rfl) ?_
  refine zaload_n hx hb (D_44 W_prog_15_method_129_code_192 7 rfl rfl) rfl (lv_at hl 1 rfl) ?_
  refine zunrf g33.1 ?_
  refine zget (ci := 13) (C := RX13) (T := TX13) (v := .int (iI (F34 13 l2 3))) (k := 3) hx hb hts inW_13 hown hK hZ34 g33.1 g33.2 rfl (by decide) k_9_128 rfl (D_180 W_prog_15_method_129_code_192 8 rfl rfl rfl) ?_
  obtain ⟨g35, hf⟩ := gif hf
  refine z0eq (tgt := 210) hx hb g35 (D_153 W_prog_15_method_129_code_192 11 rfl rfl rfl) (by decide) (fun h36 => ?_) (fun h36 => ?_)
  · replace hf := gpos hf h36
    refine lv_iconst (v := iI 0) hx hb (D_3 W_prog_15_method_129_code_192 18 rfl rfl) rfl ?_
    exact b_M_file_211 X hf hZ34 hS34 (lv_sub hl [0, 1, 2] rfl)
  · replace hf := gneg hf h36
    refine lv_iconst (v := iI 1) hx hb (D_4 W_prog_15_method_129_code_192 14 rfl rfl) rfl ?_
    refine lv_goto (tgt := 211) hx hb (D_167 W_prog_15_method_129_code_192 15 rfl rfl rfl) (by decide) ?_
    exact b_M_file_211 X hf hZ34 hS34 (lv_sub hl [0, 1, 2] rfl)

def f_M_file_17 (K : Nat)  (F : zF) (B : zB) : zO := some ((-1), F, B)
set_option maxHeartbeats 4000000 in
set_option maxRecDepth 100000 in
theorem b_M_file_17 {D : va_G} {ca : Nat → ClassId} {ad : Nat → Int → Nat → Nat} {L : List Nat} {aS vS : Nat → Nat} {A : Nat → Prop} {p : Program} {l : Launch} {e : Env} {s : State} {m : MethodId} {args : Array Value} {below : List Frame} {meth : Method} {c : Code} {K : Nat} {r : Int} {F9 : zF} {B9 : zB} (X : zX D ca L aS vS A p s m args meth c prog_15_method_129_code 6 (Option.some Jvm.ClassFile.FieldType.int) "StaveHouseModel")  {F : zF} {B : zB} {H : Heap} {locs : List Loc} {ls : Array Slot} (hf : f_M_file_17 K  F B = some (r, F9, B9)) (hZ : zH D ca ad lnM nM L F B A H) (hS : va_S A s.heap H locs) (hl : lv_has ls 6 []) : W p l e ({ frames := 7, cells := 0, slots := 0, locals := 152 } : Room) s m args below meth c H locs 0 0 (MQ below (Q_M_file D ca ad L r F9 B9 A) args s 0 0 A) (F0 m 17 ls []) := by
  obtain ⟨hx, hb, hr, hml, hown, hts, hlk, hK, hA, hL, hX⟩ := id X
  replace hf : (some ((-1), F, B)) = some (r, F9, B9) := hf
  refine lv_iconst (v := iI (-1)) hx hb (D_2 W_prog_15_method_129_code_0 17 rfl rfl) rfl ?_
  cases hf
  exact W.iret hx hb hr (fun t ht hW => ⟨⟨_, (), rfl, rfl, by rw [ht]; exact hZ, va_K.moved hW.alike hK⟩, hS.F ht⟩) hS.2.2 (D_172 W_prog_15_method_129_code_0 18 rfl rfl) hlk

def f_M_file (K : Nat) (l1 : Int) (F : zF) (B : zB) : zO := zbind (f_M_piece K l1 F B) (fun r1 F1 B1 => (if r1 < 0 then f_M_file_17 K F1 B1 else if 0 ≤ r1 ∧ r1 < 3 then if r32 (F1 13 r1 53) then (if (F1 13 r1 53) = 0 then f_M_file_17 K F1 B1 else zbind (f_M_put_1 K 36 (zup3 F1 14 0 71 0) B1) (fun r7 F7 B7 => zbind (f_M_four K 6 F7 B7) (fun r8 F8 B8 => zbind (f_M_put_0 K 0 F8 B8) (fun r9 F9 B9 => zbind (f_M_put_0 K 1 F9 B9) (fun r10 F10 B10 => zbind (f_M_put_0 K 0 F10 B10) (fun r11 F11 B11 => zbind (f_M_put_0 K ((F11 13 r1 1) + 1) F11 B11) (fun r12 F12 B12 => zbind (f_M_put_0 K 0 F12 B12) (fun r13 F13 B13 => zbind (f_M_put_0 K 96 F13 B13) (fun r14 F14 B14 => zbind (f_M_beginTrack K F14 B14) (fun r15 F15 B15 => zbind (f_M_put_0 K 0 F15 B15) (fun r16 F16 B16 => zbind (f_M_put_0 K 255 F16 B16) (fun r17 F17 B17 => zbind (f_M_put_0 K 88 F17 B17) (fun r18 F18 B18 => zbind (f_M_put_0 K 4 F18 B18) (fun r19 F19 B19 => zbind (f_M_put_0 K (F19 13 r1 4) F19 B19) (fun r20 F20 B20 => if r32 (F20 13 r1 5) then (if (F20 13 r1 5) = 2 then f_M_file_148 K r15 r1 1 F20 B20 else (if (F20 13 r1 5) = 4 then f_M_file_148 K r15 r1 2 F20 B20 else (if (F20 13 r1 5) = 8 then f_M_file_148 K r15 r1 3 F20 B20 else f_M_file_148 K r15 r1 4 F20 B20))) else none))))))))))))))) else none else none))
set_option maxHeartbeats 4000000 in
set_option maxRecDepth 100000 in
theorem c_M_file {l : Launch} {D : va_G} {ca : Nat → ClassId} {ad : Nat → Int → Nat → Nat} {L : List Nat} {aS vS : Nat → Nat} {sz K : Nat}  {l1 : Int} {F F9 : zF} {B B9 : zB} {r : Int} (hf : f_M_file K l1 F B = some (r, F9, B9)) : Met l ({ cls := "StaveHouseModel", name := "file", desc := "(I)I" } : Jvm.MethodName) (Cond.code ({ cls := "StaveHouseModel", name := "file", desc := "(I)I" } : Jvm.MethodName) prog_15_method_129_code 6 (Option.some Jvm.ClassFile.FieldType.int) :: wAll) ({ frames := 7, cells := 0, slots := 0, locals := 152 } : Room) (va_Pc [.ref (ad 14 0 0), .int (iI l1)] (zPre D ca ad lnM nM L aS vS F B sz)) (Q_M_file D ca ad L r F9 B9 (zA L sz)) 0 0 (zA L sz) := by
  refine zMet (Qc := Q_M_file D ca ad L r F9 B9) (lv := [(0, .ref (ad 14 0 0)), (1, .int (iI l1))]) (by decide) (Nat.le_of_ble_eq_true rfl) rfl (fun A p e s m below meth c ls X hZ hS hl => ?_)
  obtain ⟨hx, hb, hr, hml, hown, hts, hlk, hK, hA, hL, hX⟩ := id X
  replace hf : (zbind (f_M_piece K l1 F B) (fun r1 F1 B1 => (if r1 < 0 then f_M_file_17 K F1 B1 else if 0 ≤ r1 ∧ r1 < 3 then if r32 (F1 13 r1 53) then (if (F1 13 r1 53) = 0 then f_M_file_17 K F1 B1 else zbind (f_M_put_1 K 36 (zup3 F1 14 0 71 0) B1) (fun r7 F7 B7 => zbind (f_M_four K 6 F7 B7) (fun r8 F8 B8 => zbind (f_M_put_0 K 0 F8 B8) (fun r9 F9 B9 => zbind (f_M_put_0 K 1 F9 B9) (fun r10 F10 B10 => zbind (f_M_put_0 K 0 F10 B10) (fun r11 F11 B11 => zbind (f_M_put_0 K ((F11 13 r1 1) + 1) F11 B11) (fun r12 F12 B12 => zbind (f_M_put_0 K 0 F12 B12) (fun r13 F13 B13 => zbind (f_M_put_0 K 96 F13 B13) (fun r14 F14 B14 => zbind (f_M_beginTrack K F14 B14) (fun r15 F15 B15 => zbind (f_M_put_0 K 0 F15 B15) (fun r16 F16 B16 => zbind (f_M_put_0 K 255 F16 B16) (fun r17 F17 B17 => zbind (f_M_put_0 K 88 F17 B17) (fun r18 F18 B18 => zbind (f_M_put_0 K 4 F18 B18) (fun r19 F19 B19 => zbind (f_M_put_0 K (F19 13 r1 4) F19 B19) (fun r20 F20 B20 => if r32 (F20 13 r1 5) then (if (F20 13 r1 5) = 2 then f_M_file_148 K r15 r1 1 F20 B20 else (if (F20 13 r1 5) = 4 then f_M_file_148 K r15 r1 2 F20 B20 else (if (F20 13 r1 5) = 8 then f_M_file_148 K r15 r1 3 F20 B20 else f_M_file_148 K r15 r1 4 F20 B20))) else none))))))))))))))) else none else none))) = some (r, F9, B9) := hf
  refine lv_aload_n hx hb (D_42 W_prog_15_method_129_code_0 0 rfl rfl) rfl (lv_at hl 0 rfl) ?_
  refine lv_iload_n hx hb (D_27 W_prog_15_method_129_code_0 1 rfl rfl) rfl (lv_at hl 1 rfl) ?_
  obtain ⟨r1, F1, B1, hc1, hf⟩ := gbind hf
  refine va_callq (va_runV (As := [.int (iI l1)]) (rest := []) ⟨hx, hb, hml, hown, hts⟩ (c_M_piece (l := l) hc1) (cwV 1 hts (gdV k_12_92 k_12_94 ks_131 k_1_9 k_12_95) rfl rfl rfl (by decide +kernel) ⟨Nat.le_of_ble_eq_true rfl, Nat.le_of_ble_eq_true rfl⟩) (zPV X hZ hS (ci := 14) (by decide) (by decide) (r := (RX14, TX14, 107)) rfl [.int (iI l1)]) rfl rfl hl.1 rfl (lv_room (Nat.le_of_ble_eq_true rfl)) (D_182 W_prog_15_method_129_code_0 2 rfl rfl rfl) ⟨Nat.le_of_ble_eq_true rfl, Nat.le_of_ble_eq_true rfl⟩) hS (fun q _ h => zAin X hS q h) (zAin X hS) (fun p1 u1 t1 H1 locs1 ht1 hv1 hw1 hB1 hz1 hk1 hS1 => ?_)
  have hZ1 := zBack X ht1 hB1
  subst hw1
  refine zastore_n (lv' := [(0, .ref (ad 14 0 0)), (1, .int (iI l1))]) hx hb (D_77 W_prog_15_method_129_code_0 5 rfl rfl) rfl hl (by decide) (fun _ _ => rfl) (fun ls hl => ?_)
  refine zaload_n hx hb (D_44 W_prog_15_method_129_code_0 6 rfl rfl) rfl (lv_at hl 0 rfl) ?_
  refine zifnull (tgt := 17) hx hb (D_198 W_prog_15_method_129_code_0 7 rfl rfl rfl) (by decide) (fun h2 => ?_) (fun h2 => ?_)
  · replace hf := gpos hf h2
    exact b_M_file_17 X hf hZ1 hS1 (lv_sub hl [] rfl)
  · replace hf := gneg hf h2
    refine zaload_n hx hb (D_44 W_prog_15_method_129_code_0 10 rfl rfl) rfl (lv_at hl 0 rfl) ?_
    obtain ⟨g3, hf⟩ := gif hf
    refine zunrf g3.1 ?_
    refine zget (ci := 13) (C := RX13) (T := TX13) (v := .int (iI (F1 13 r1 53))) (k := 53) hx hb hts inW_13 hown hK hZ1 g3.1 g3.2 rfl (by decide) k_9_221 rfl (D_180 W_prog_15_method_129_code_0 11 rfl rfl rfl) ?_
    obtain ⟨g4, hf⟩ := gif hf
    refine z0ne (tgt := 19) hx hb g4 (D_154 W_prog_15_method_129_code_0 14 rfl rfl rfl) (by decide) (fun h5 => ?_) (fun h5 => ?_)
    · replace hf := gneg hf h5
      refine lv_aload_n hx hb (D_42 W_prog_15_method_129_code_0 19 rfl rfl) rfl (lv_at hl 1 rfl) ?_
      refine lv_iconst (v := iI 0) hx hb (D_3 W_prog_15_method_129_code_0 20 rfl rfl) rfl ?_
      refine zput (ci := 14) (C := RX14) (T := TX14) (k := 71) (v := 0) (w := .int (iI 0)) hx hb hts inW_14 tyX14 tyX14_ok nmX14 hown hK hZ1 hS1 (by decide) (by decide) rfl (by decide) k_11_69 rfl (fun G h => congrArg (fun q => Value.int (iI q)) h) rfl rfl (zno (by decide)) (D_181 W_prog_15_method_129_code_0 21 rfl rfl rfl) (fun H6 locs6 hZ6 hS6 => ?_)
      refine lv_aload_n hx hb (D_42 W_prog_15_method_129_code_0 24 rfl rfl) rfl (lv_at hl 1 rfl) ?_
      refine gldcwS hx hb hown (hX.2.2.2.2.1 36 _ rfl).1 (D_19 W_prog_15_method_129_code_0 25 rfl rfl rfl) ?_
      obtain ⟨r7, F7, B7, hc7, hf⟩ := gbind hf
      refine va_callv (va_runV (As := [.ref (aS 36)]) (rest := []) ⟨hx, hb, hml, hown, hts⟩ (c_M_put_1 (l := l) hc7) (cwV 1 hts (gdV k_12_195 k_12_197 ks_141 k_1_9 k_12_198) rfl rfl rfl (by decide +kernel) ⟨Nat.le_of_ble_eq_true rfl, Nat.le_of_ble_eq_true rfl⟩) (zPV X hZ6 hS6 (ci := 14) (by decide) (by decide) (r := (RX14, TX14, 107)) rfl [.ref (aS 36)]) rfl rfl hl.1 rfl (lv_room (Nat.le_of_ble_eq_true rfl)) (D_182 W_prog_15_method_129_code_0 28 rfl rfl rfl) ⟨Nat.le_of_ble_eq_true rfl, Nat.le_of_ble_eq_true rfl⟩) hS6 (fun q _ h => zAin X hS6 q h) (zAin X hS6) (fun u7 t7 H7 locs7 ht7 hv7 hw7 hB7 hz7 hk7 hS7 => ?_)
      have hZ7 := zBack X ht7 hB7
      refine lv_aload_n hx hb (D_42 W_prog_15_method_129_code_0 31 rfl rfl) rfl (lv_at hl 1 rfl) ?_
      refine lv_bipush (v := iI 6) hx hb (D_16 W_prog_15_method_129_code_32 0 rfl rfl rfl) (by decide) ?_
      obtain ⟨r8, F8, B8, hc8, hf⟩ := gbind hf
      refine va_callv (va_runV (As := [.int (iI 6)]) (rest := []) ⟨hx, hb, hml, hown, hts⟩ (c_M_four (l := l) hc8) (cwV 1 hts (gdV k_12_203 k_12_205 ks_143 k_1_9 k_12_206) rfl rfl rfl (by decide +kernel) ⟨Nat.le_of_ble_eq_true rfl, Nat.le_of_ble_eq_true rfl⟩) (zPV X hZ7 hS7 (ci := 14) (by decide) (by decide) (r := (RX14, TX14, 107)) rfl [.int (iI 6)]) rfl rfl hl.1 rfl (lv_room (Nat.le_of_ble_eq_true rfl)) (D_182 W_prog_15_method_129_code_32 2 rfl rfl rfl) ⟨Nat.le_of_ble_eq_true rfl, Nat.le_of_ble_eq_true rfl⟩) hS7 (fun q _ h => zAin X hS7 q h) (zAin X hS7) (fun u8 t8 H8 locs8 ht8 hv8 hw8 hB8 hz8 hk8 hS8 => ?_)
      have hZ8 := zBack X ht8 hB8
      refine lv_aload_n hx hb (D_42 W_prog_15_method_129_code_32 5 rfl rfl) rfl (lv_at hl 1 rfl) ?_
      refine lv_iconst (v := iI 0) hx hb (D_3 W_prog_15_method_129_code_32 6 rfl rfl) rfl ?_
      obtain ⟨r9, F9, B9, hc9, hf⟩ := gbind hf
      refine va_callv (va_runV (As := [.int (iI 0)]) (rest := []) ⟨hx, hb, hml, hown, hts⟩ (c_M_put_0 (l := l) hc9) (cwV 1 hts (gdV k_12_199 k_12_201 ks_142 k_1_9 k_12_202) rfl rfl rfl (by decide +kernel) ⟨Nat.le_of_ble_eq_true rfl, Nat.le_of_ble_eq_true rfl⟩) (zPV X hZ8 hS8 (ci := 14) (by decide) (by decide) (r := (RX14, TX14, 107)) rfl [.int (iI 0)]) rfl rfl hl.1 rfl (lv_room (Nat.le_of_ble_eq_true rfl)) (D_182 W_prog_15_method_129_code_32 7 rfl rfl rfl) ⟨Nat.le_of_ble_eq_true rfl, Nat.le_of_ble_eq_true rfl⟩) hS8 (fun q _ h => zAin X hS8 q h) (zAin X hS8) (fun u9 t9 H9 locs9 ht9 hv9 hw9 hB9 hz9 hk9 hS9 => ?_)
      have hZ9 := zBack X ht9 hB9
      refine lv_aload_n hx hb (D_42 W_prog_15_method_129_code_32 10 rfl rfl) rfl (lv_at hl 1 rfl) ?_
      refine lv_iconst (v := iI 1) hx hb (D_4 W_prog_15_method_129_code_32 11 rfl rfl) rfl ?_
      obtain ⟨r10, F10, B10, hc10, hf⟩ := gbind hf
      refine va_callv (va_runV (As := [.int (iI 1)]) (rest := []) ⟨hx, hb, hml, hown, hts⟩ (c_M_put_0 (l := l) hc10) (cwV 1 hts (gdV k_12_199 k_12_201 ks_142 k_1_9 k_12_202) rfl rfl rfl (by decide +kernel) ⟨Nat.le_of_ble_eq_true rfl, Nat.le_of_ble_eq_true rfl⟩) (zPV X hZ9 hS9 (ci := 14) (by decide) (by decide) (r := (RX14, TX14, 107)) rfl [.int (iI 1)]) rfl rfl hl.1 rfl (lv_room (Nat.le_of_ble_eq_true rfl)) (D_182 W_prog_15_method_129_code_32 12 rfl rfl rfl) ⟨Nat.le_of_ble_eq_true rfl, Nat.le_of_ble_eq_true rfl⟩) hS9 (fun q _ h => zAin X hS9 q h) (zAin X hS9) (fun u10 t10 H10 locs10 ht10 hv10 hw10 hB10 hz10 hk10 hS10 => ?_)
      have hZ10 := zBack X ht10 hB10
      refine lv_aload_n hx hb (D_42 W_prog_15_method_129_code_32 15 rfl rfl) rfl (lv_at hl 1 rfl) ?_
      refine lv_iconst (v := iI 0) hx hb (D_3 W_prog_15_method_129_code_32 16 rfl rfl) rfl ?_
      obtain ⟨r11, F11, B11, hc11, hf⟩ := gbind hf
      refine va_callv (va_runV (As := [.int (iI 0)]) (rest := []) ⟨hx, hb, hml, hown, hts⟩ (c_M_put_0 (l := l) hc11) (cwV 1 hts (gdV k_12_199 k_12_201 ks_142 k_1_9 k_12_202) rfl rfl rfl (by decide +kernel) ⟨Nat.le_of_ble_eq_true rfl, Nat.le_of_ble_eq_true rfl⟩) (zPV X hZ10 hS10 (ci := 14) (by decide) (by decide) (r := (RX14, TX14, 107)) rfl [.int (iI 0)]) rfl rfl hl.1 rfl (lv_room (Nat.le_of_ble_eq_true rfl)) (D_182 W_prog_15_method_129_code_32 17 rfl rfl rfl) ⟨Nat.le_of_ble_eq_true rfl, Nat.le_of_ble_eq_true rfl⟩) hS10 (fun q _ h => zAin X hS10 q h) (zAin X hS10) (fun u11 t11 H11 locs11 ht11 hv11 hw11 hB11 hz11 hk11 hS11 => ?_)
      have hZ11 := zBack X ht11 hB11
      refine lv_aload_n hx hb (D_42 W_prog_15_method_129_code_32 20 rfl rfl) rfl (lv_at hl 1 rfl) ?_
      refine zaload_n hx hb (D_44 W_prog_15_method_129_code_32 21 rfl rfl) rfl (lv_at hl 0 rfl) ?_
      refine zunrf g3.1 ?_
      refine zget (ci := 13) (C := RX13) (T := TX13) (v := .int (iI (F11 13 r1 1))) (k := 1) hx hb hts inW_13 hown hK hZ11 g3.1 g3.2 rfl (by decide) k_9_126 rfl (D_180 W_prog_15_method_129_code_32 22 rfl rfl rfl) ?_
      refine lv_iconst (v := iI 1) hx hb (D_4 W_prog_15_method_129_code_32 25 rfl rfl) rfl ?_
      refine zadd hx hb (D_96 W_prog_15_method_129_code_32 26 rfl rfl) ?_
      obtain ⟨r12, F12, B12, hc12, hf⟩ := gbind hf
      refine va_callv (va_runV (As := [.int (iI ((F11 13 r1 1) + 1))]) (rest := []) ⟨hx, hb, hml, hown, hts⟩ (c_M_put_0 (l := l) hc12) (cwV 1 hts (gdV k_12_199 k_12_201 ks_142 k_1_9 k_12_202) rfl rfl rfl (by decide +kernel) ⟨Nat.le_of_ble_eq_true rfl, Nat.le_of_ble_eq_true rfl⟩) (zPV X hZ11 hS11 (ci := 14) (by decide) (by decide) (r := (RX14, TX14, 107)) rfl [.int (iI ((F11 13 r1 1) + 1))]) rfl rfl hl.1 rfl (lv_room (Nat.le_of_ble_eq_true rfl)) (D_182 W_prog_15_method_129_code_32 27 rfl rfl rfl) ⟨Nat.le_of_ble_eq_true rfl, Nat.le_of_ble_eq_true rfl⟩) hS11 (fun q _ h => zAin X hS11 q h) (zAin X hS11) (fun u12 t12 H12 locs12 ht12 hv12 hw12 hB12 hz12 hk12 hS12 => ?_)
      have hZ12 := zBack X ht12 hB12
      refine lv_aload_n hx hb (D_42 W_prog_15_method_129_code_32 30 rfl rfl) rfl (lv_at hl 1 rfl) ?_
      refine lv_iconst (v := iI 0) hx hb (D_3 W_prog_15_method_129_code_32 31 rfl rfl) rfl ?_
      obtain ⟨r13, F13, B13, hc13, hf⟩ := gbind hf
      refine va_callv (va_runV (As := [.int (iI 0)]) (rest := []) ⟨hx, hb, hml, hown, hts⟩ (c_M_put_0 (l := l) hc13) (cwV 1 hts (gdV k_12_199 k_12_201 ks_142 k_1_9 k_12_202) rfl rfl rfl (by decide +kernel) ⟨Nat.le_of_ble_eq_true rfl, Nat.le_of_ble_eq_true rfl⟩) (zPV X hZ12 hS12 (ci := 14) (by decide) (by decide) (r := (RX14, TX14, 107)) rfl [.int (iI 0)]) rfl rfl hl.1 rfl (lv_room (Nat.le_of_ble_eq_true rfl)) (D_182 W_prog_15_method_129_code_64 0 rfl rfl rfl) ⟨Nat.le_of_ble_eq_true rfl, Nat.le_of_ble_eq_true rfl⟩) hS12 (fun q _ h => zAin X hS12 q h) (zAin X hS12) (fun u13 t13 H13 locs13 ht13 hv13 hw13 hB13 hz13 hk13 hS13 => ?_)
      have hZ13 := zBack X ht13 hB13
      refine lv_aload_n hx hb (D_42 W_prog_15_method_129_code_64 3 rfl rfl) rfl (lv_at hl 1 rfl) ?_
      refine lv_bipush (v := iI 96) hx hb (D_16 W_prog_15_method_129_code_64 4 rfl rfl rfl) (by decide) ?_
      obtain ⟨r14, F14, B14, hc14, hf⟩ := gbind hf
      refine va_callv (va_runV (As := [.int (iI 96)]) (rest := []) ⟨hx, hb, hml, hown, hts⟩ (c_M_put_0 (l := l) hc14) (cwV 1 hts (gdV k_12_199 k_12_201 ks_142 k_1_9 k_12_202) rfl rfl rfl (by decide +kernel) ⟨Nat.le_of_ble_eq_true rfl, Nat.le_of_ble_eq_true rfl⟩) (zPV X hZ13 hS13 (ci := 14) (by decide) (by decide) (r := (RX14, TX14, 107)) rfl [.int (iI 96)]) rfl rfl hl.1 rfl (lv_room (Nat.le_of_ble_eq_true rfl)) (D_182 W_prog_15_method_129_code_64 6 rfl rfl rfl) ⟨Nat.le_of_ble_eq_true rfl, Nat.le_of_ble_eq_true rfl⟩) hS13 (fun q _ h => zAin X hS13 q h) (zAin X hS13) (fun u14 t14 H14 locs14 ht14 hv14 hw14 hB14 hz14 hk14 hS14 => ?_)
      have hZ14 := zBack X ht14 hB14
      refine lv_aload_n hx hb (D_42 W_prog_15_method_129_code_64 9 rfl rfl) rfl (lv_at hl 1 rfl) ?_
      obtain ⟨r15, F15, B15, hc15, hf⟩ := gbind hf
      refine va_calli (va_runV (As := []) (rest := []) ⟨hx, hb, hml, hown, hts⟩ (c_M_beginTrack (l := l) hc15) (cwV 0 hts (gdV k_12_207 k_12_209 ks_144 k_1_9 k_12_210) rfl rfl rfl (by decide +kernel) ⟨Nat.le_of_ble_eq_true rfl, Nat.le_of_ble_eq_true rfl⟩) (zPV X hZ14 hS14 (ci := 14) (by decide) (by decide) (r := (RX14, TX14, 107)) rfl []) rfl rfl hl.1 rfl (lv_room (Nat.le_of_ble_eq_true rfl)) (D_182 W_prog_15_method_129_code_64 10 rfl rfl rfl) ⟨Nat.le_of_ble_eq_true rfl, Nat.le_of_ble_eq_true rfl⟩) hS14 (fun q _ h => zAin X hS14 q h) (zAin X hS14) (fun p15 u15 t15 H15 locs15 ht15 hv15 hw15 hB15 hz15 hk15 hS15 => ?_)
      have hZ15 := zBack X ht15 hB15
      subst hw15
      refine lv_istore_n (lv' := [(3, .int (iI r15)), (2, va_rf (zrf ad 13 r1)), (0, .ref (ad 14 0 0)), (1, .int (iI l1))]) hx hb (D_62 W_prog_15_method_129_code_64 13 rfl rfl) rfl hl (by decide) (by cases zrf ad 13 r1 <;> rfl) (fun ls hl => ?_)
      refine lv_aload_n hx hb (D_42 W_prog_15_method_129_code_64 14 rfl rfl) rfl (lv_at hl 2 rfl) ?_
      refine lv_iconst (v := iI 0) hx hb (D_3 W_prog_15_method_129_code_64 15 rfl rfl) rfl ?_
      obtain ⟨r16, F16, B16, hc16, hf⟩ := gbind hf
      refine va_callv (va_runV (As := [.int (iI 0)]) (rest := []) ⟨hx, hb, hml, hown, hts⟩ (c_M_put_0 (l := l) hc16) (cwV 1 hts (gdV k_12_199 k_12_201 ks_142 k_1_9 k_12_202) rfl rfl rfl (by decide +kernel) ⟨Nat.le_of_ble_eq_true rfl, Nat.le_of_ble_eq_true rfl⟩) (zPV X hZ15 hS15 (ci := 14) (by decide) (by decide) (r := (RX14, TX14, 107)) rfl [.int (iI 0)]) rfl rfl hl.1 rfl (lv_room (Nat.le_of_ble_eq_true rfl)) (D_182 W_prog_15_method_129_code_64 16 rfl rfl rfl) ⟨Nat.le_of_ble_eq_true rfl, Nat.le_of_ble_eq_true rfl⟩) hS15 (fun q _ h => zAin X hS15 q h) (zAin X hS15) (fun u16 t16 H16 locs16 ht16 hv16 hw16 hB16 hz16 hk16 hS16 => ?_)
      have hZ16 := zBack X ht16 hB16
      refine lv_aload_n hx hb (D_42 W_prog_15_method_129_code_64 19 rfl rfl) rfl (lv_at hl 2 rfl) ?_
      refine lv_sipush (v := iI 255) hx hb (D_17 W_prog_15_method_129_code_64 20 rfl rfl rfl) (by decide) ?_
      obtain ⟨r17, F17, B17, hc17, hf⟩ := gbind hf
      refine va_callv (va_runV (As := [.int (iI 255)]) (rest := []) ⟨hx, hb, hml, hown, hts⟩ (c_M_put_0 (l := l) hc17) (cwV 1 hts (gdV k_12_199 k_12_201 ks_142 k_1_9 k_12_202) rfl rfl rfl (by decide +kernel) ⟨Nat.le_of_ble_eq_true rfl, Nat.le_of_ble_eq_true rfl⟩) (zPV X hZ16 hS16 (ci := 14) (by decide) (by decide) (r := (RX14, TX14, 107)) rfl [.int (iI 255)]) rfl rfl hl.1 rfl (lv_room (Nat.le_of_ble_eq_true rfl)) (D_182 W_prog_15_method_129_code_64 23 rfl rfl rfl) ⟨Nat.le_of_ble_eq_true rfl, Nat.le_of_ble_eq_true rfl⟩) hS16 (fun q _ h => zAin X hS16 q h) (zAin X hS16) (fun u17 t17 H17 locs17 ht17 hv17 hw17 hB17 hz17 hk17 hS17 => ?_)
      have hZ17 := zBack X ht17 hB17
      refine lv_aload_n hx hb (D_42 W_prog_15_method_129_code_64 26 rfl rfl) rfl (lv_at hl 2 rfl) ?_
      refine lv_bipush (v := iI 88) hx hb (D_16 W_prog_15_method_129_code_64 27 rfl rfl rfl) (by decide) ?_
      obtain ⟨r18, F18, B18, hc18, hf⟩ := gbind hf
      refine va_callv (va_runV (As := [.int (iI 88)]) (rest := []) ⟨hx, hb, hml, hown, hts⟩ (c_M_put_0 (l := l) hc18) (cwV 1 hts (gdV k_12_199 k_12_201 ks_142 k_1_9 k_12_202) rfl rfl rfl (by decide +kernel) ⟨Nat.le_of_ble_eq_true rfl, Nat.le_of_ble_eq_true rfl⟩) (zPV X hZ17 hS17 (ci := 14) (by decide) (by decide) (r := (RX14, TX14, 107)) rfl [.int (iI 88)]) rfl rfl hl.1 rfl (lv_room (Nat.le_of_ble_eq_true rfl)) (D_182 W_prog_15_method_129_code_64 29 rfl rfl rfl) ⟨Nat.le_of_ble_eq_true rfl, Nat.le_of_ble_eq_true rfl⟩) hS17 (fun q _ h => zAin X hS17 q h) (zAin X hS17) (fun u18 t18 H18 locs18 ht18 hv18 hw18 hB18 hz18 hk18 hS18 => ?_)
      have hZ18 := zBack X ht18 hB18
      refine lv_aload_n hx hb (D_42 W_prog_15_method_129_code_96 0 rfl rfl) rfl (lv_at hl 2 rfl) ?_
      refine lv_iconst (v := iI 4) hx hb (D_7 W_prog_15_method_129_code_96 1 rfl rfl) rfl ?_
      obtain ⟨r19, F19, B19, hc19, hf⟩ := gbind hf
      refine va_callv (va_runV (As := [.int (iI 4)]) (rest := []) ⟨hx, hb, hml, hown, hts⟩ (c_M_put_0 (l := l) hc19) (cwV 1 hts (gdV k_12_199 k_12_201 ks_142 k_1_9 k_12_202) rfl rfl rfl (by decide +kernel) ⟨Nat.le_of_ble_eq_true rfl, Nat.le_of_ble_eq_true rfl⟩) (zPV X hZ18 hS18 (ci := 14) (by decide) (by decide) (r := (RX14, TX14, 107)) rfl [.int (iI 4)]) rfl rfl hl.1 rfl (lv_room (Nat.le_of_ble_eq_true rfl)) (D_182 W_prog_15_method_129_code_96 2 rfl rfl rfl) ⟨Nat.le_of_ble_eq_true rfl, Nat.le_of_ble_eq_true rfl⟩) hS18 (fun q _ h => zAin X hS18 q h) (zAin X hS18) (fun u19 t19 H19 locs19 ht19 hv19 hw19 hB19 hz19 hk19 hS19 => ?_)
      have hZ19 := zBack X ht19 hB19
      refine lv_aload_n hx hb (D_42 W_prog_15_method_129_code_96 5 rfl rfl) rfl (lv_at hl 2 rfl) ?_
      refine zaload_n hx hb (D_44 W_prog_15_method_129_code_96 6 rfl rfl) rfl (lv_at hl 1 rfl) ?_
      refine zunrf g3.1 ?_
      refine zget (ci := 13) (C := RX13) (T := TX13) (v := .int (iI (F19 13 r1 4))) (k := 4) hx hb hts inW_13 hown hK hZ19 g3.1 g3.2 rfl (by decide) k_9_129 rfl (D_180 W_prog_15_method_129_code_96 7 rfl rfl rfl) ?_
      obtain ⟨r20, F20, B20, hc20, hf⟩ := gbind hf
      refine va_callv (va_runV (As := [.int (iI (F19 13 r1 4))]) (rest := []) ⟨hx, hb, hml, hown, hts⟩ (c_M_put_0 (l := l) hc20) (cwV 1 hts (gdV k_12_199 k_12_201 ks_142 k_1_9 k_12_202) rfl rfl rfl (by decide +kernel) ⟨Nat.le_of_ble_eq_true rfl, Nat.le_of_ble_eq_true rfl⟩) (zPV X hZ19 hS19 (ci := 14) (by decide) (by decide) (r := (RX14, TX14, 107)) rfl [.int (iI (F19 13 r1 4))]) rfl rfl hl.1 rfl (lv_room (Nat.le_of_ble_eq_true rfl)) (D_182 W_prog_15_method_129_code_96 10 rfl rfl rfl) ⟨Nat.le_of_ble_eq_true rfl, Nat.le_of_ble_eq_true rfl⟩) hS19 (fun q _ h => zAin X hS19 q h) (zAin X hS19) (fun u20 t20 H20 locs20 ht20 hv20 hw20 hB20 hz20 hk20 hS20 => ?_)
      have hZ20 := zBack X ht20 hB20
      refine lv_aload_n hx hb (D_42 W_prog_15_method_129_code_96 13 rfl rfl) rfl (lv_at hl 2 rfl) ?_
      refine zaload_n hx hb (D_44 W_prog_15_method_129_code_96 14 rfl rfl) rfl (lv_at hl 1 rfl) ?_
      refine zunrf g3.1 ?_
      refine zget (ci := 13) (C := RX13) (T := TX13) (v := .int (iI (F20 13 r1 5))) (k := 5) hx hb hts inW_13 hown hK hZ20 g3.1 g3.2 rfl (by decide) k_9_130 rfl (D_180 W_prog_15_method_129_code_96 15 rfl rfl rfl) ?_
      refine lv_iconst (v := iI 2) hx hb (D_5 W_prog_15_method_129_code_96 18 rfl rfl) rfl ?_
      obtain ⟨g21, hf⟩ := gif hf
      refine zne (tgt := 122) hx hb g21 (by decide) (D_160 W_prog_15_method_129_code_96 19 rfl rfl rfl) (by decide) (fun h22 => ?_) (fun h22 => ?_)
      · replace hf := gneg hf h22
        refine zaload_n hx hb (D_44 W_prog_15_method_129_code_96 26 rfl rfl) rfl (lv_at hl 1 rfl) ?_
        refine zunrf g3.1 ?_
        refine zget (ci := 13) (C := RX13) (T := TX13) (v := .int (iI (F20 13 r1 5))) (k := 5) hx hb hts inW_13 hown hK hZ20 g3.1 g3.2 rfl (by decide) k_9_130 rfl (D_180 W_prog_15_method_129_code_96 27 rfl rfl rfl) ?_
        refine lv_iconst (v := iI 4) hx hb (D_7 W_prog_15_method_129_code_96 30 rfl rfl) rfl ?_
        refine zne (tgt := 134) hx hb g21 (by decide) (D_160 W_prog_15_method_129_code_96 31 rfl rfl rfl) (by decide) (fun h23 => ?_) (fun h23 => ?_)
        · replace hf := gneg hf h23
          refine zaload_n hx hb (D_44 W_prog_15_method_129_code_128 6 rfl rfl) rfl (lv_at hl 1 rfl) ?_
          refine zunrf g3.1 ?_
          refine zget (ci := 13) (C := RX13) (T := TX13) (v := .int (iI (F20 13 r1 5))) (k := 5) hx hb hts inW_13 hown hK hZ20 g3.1 g3.2 rfl (by decide) k_9_130 rfl (D_180 W_prog_15_method_129_code_128 7 rfl rfl rfl) ?_
          refine lv_bipush (v := iI 8) hx hb (D_16 W_prog_15_method_129_code_128 10 rfl rfl rfl) (by decide) ?_
          refine zne (tgt := 147) hx hb g21 (by decide) (D_160 W_prog_15_method_129_code_128 12 rfl rfl rfl) (by decide) (fun h24 => ?_) (fun h24 => ?_)
          · replace hf := gneg hf h24
            refine lv_iconst (v := iI 4) hx hb (D_7 W_prog_15_method_129_code_128 19 rfl rfl) rfl ?_
            exact b_M_file_148 X hf hZ20 hS20 (lv_sub hl [0, 1, 2] rfl)
          · replace hf := gpos hf h24
            refine lv_iconst (v := iI 3) hx hb (D_6 W_prog_15_method_129_code_128 15 rfl rfl) rfl ?_
            refine lv_goto (tgt := 148) hx hb (D_167 W_prog_15_method_129_code_128 16 rfl rfl rfl) (by decide) ?_
            exact b_M_file_148 X hf hZ20 hS20 (lv_sub hl [0, 1, 2] rfl)
        · replace hf := gpos hf h23
          refine lv_iconst (v := iI 2) hx hb (D_5 W_prog_15_method_129_code_128 2 rfl rfl) rfl ?_
          refine lv_goto (tgt := 148) hx hb (D_167 W_prog_15_method_129_code_128 3 rfl rfl rfl) (by decide) ?_
          exact b_M_file_148 X hf hZ20 hS20 (lv_sub hl [0, 1, 2] rfl)
      · replace hf := gpos hf h22
        refine lv_iconst (v := iI 1) hx hb (D_4 W_prog_15_method_129_code_96 22 rfl rfl) rfl ?_
        refine lv_goto (tgt := 148) hx hb (D_167 W_prog_15_method_129_code_96 23 rfl rfl rfl) (by decide) ?_
        exact b_M_file_148 X hf hZ20 hS20 (lv_sub hl [0, 1, 2] rfl)
    · replace hf := gpos hf h5
      exact b_M_file_17 X hf hZ1 hS1 (lv_sub hl [] rfl)

abbrev Q_M_expect (D : va_G) (ca : Nat → ClassId) (ad : Nat → Int → Nat → Nat) (L : List Nat) (r : Int) (F : zF) (B : zB) (A : Nat → Prop) : Array Value → State → Outcome → State → Prop := va_Qv (S := Unit) (fun _ => True) (fun _ => zPo D ca ad lnM nM L F B A) A
def f_M_expect_42 (rec2 : Int → Nat → zF → zB → zO) (K : Nat) (l2 : Int) (l1 : Nat) (F : zF) (B : zB) : zO := rec2 (l2 + 1) l1 F B
set_option maxHeartbeats 4000000 in
set_option maxRecDepth 100000 in
theorem b_M_expect_42 {D : va_G} {ca : Nat → ClassId} {ad : Nat → Int → Nat → Nat} {L : List Nat} {aS vS : Nat → Nat} {A : Nat → Prop} {p : Program} {l : Launch} {e : Env} {s : State} {m : MethodId} {args : Array Value} {below : List Frame} {meth : Method} {c : Code} {K : Nat} {r : Int} {F9 : zF} {B9 : zB} (X : zX D ca L aS vS A p s m args meth c prog_15_method_137_code 4 (Option.none : Option Jvm.ClassFile.FieldType) "StaveHouseModel") {rec2 : Int → Nat → zF → zB → zO} (hrec2 : ∀ {l2 : Int} {l1 : Nat} {F : zF} {B : zB} {H : Heap} {locs : List Loc} {ls : Array Slot}, rec2 l2 l1 F B = some (r, F9, B9) → zH D ca ad lnM nM L F B A H → va_S A s.heap H locs → lv_has ls 4 [(2, .int (iI l2)), (0, .ref (ad 14 0 0)), (1, .ref (aS l1))] → W p l e ({ frames := 4, cells := 0, slots := 0, locals := 85 } : Room) s m args below meth c H locs 0 0 (MQ below (Q_M_expect D ca ad L r F9 B9 A) args s 0 0 A) (F0 m 2 ls [])) {l2 : Int} {l1 : Nat} {F : zF} {B : zB} {H : Heap} {locs : List Loc} {ls : Array Slot} (hf : f_M_expect_42 rec2 K l2 l1 F B = some (r, F9, B9)) (hZ : zH D ca ad lnM nM L F B A H) (hS : va_S A s.heap H locs) (hl : lv_has ls 4 [(2, .int (iI l2)), (0, .ref (ad 14 0 0)), (1, .ref (aS l1))]) : W p l e ({ frames := 4, cells := 0, slots := 0, locals := 85 } : Room) s m args below meth c H locs 0 0 (MQ below (Q_M_expect D ca ad L r F9 B9 A) args s 0 0 A) (F0 m 42 ls []) := by
  obtain ⟨hx, hb, hr, hml, hown, hts, hlk, hK, hA, hL, hX⟩ := id X
  replace hf : (rec2 (l2 + 1) l1 F B) = some (r, F9, B9) := hf
  refine lv_iinc (v := iI (l2 + 1)) (lv' := [(2, .int (iI (l2 + 1))), (0, .ref (ad 14 0 0)), (1, .ref (aS l1))]) hx hb d_15_137_42 hl (k := 0) rfl (iI_add _ 1) (by decide) rfl (fun ls hl => ?_)
  refine lv_goto (tgt := 2) hx hb (D_167 W_prog_15_method_137_code_32 13 rfl rfl rfl) (by decide) ?_
  exact hrec2 hf hZ hS (lv_sub hl [0, 1, 2] rfl)

def f_M_expect_2 (K : Nat) : Nat → Int → Nat → zF → zB → zO
  | 0, _, _, _, _ => none
  | n + 1, l2, l1, F, B => if l1 < strL.length then zbind (f_String_length K l1 F B) (fun r2 F2 B2 => if r32 l2 then if r32 r2 then (if r2 ≤ l2 then some (0, F2, B2) else zbind (f_M_next K F2 B2) (fun r6 F6 B6 => zbind (f_M_good K F6 B6) (fun r7 F7 B7 => if r32 r7 then (if r7 = 0 then f_M_expect_42 (f_M_expect_2 K n) K l2 l1 F7 B7 else zbind (f_String_charAt K l1 l2 F7 B7) (fun r10 F10 B10 => if r32 r6 then if r32 r10 then (if r6 = r10 then f_M_expect_42 (f_M_expect_2 K n) K l2 l1 F10 B10 else zbind (f_M_failByte K 1 ((F10 14 0 89) - 1) F10 B10) (fun r14 F14 B14 => f_M_expect_42 (f_M_expect_2 K n) K l2 l1 F14 B14)) else none else none)) else none))) else none else none) else none
set_option maxHeartbeats 4000000 in
set_option maxRecDepth 100000 in
theorem b_M_expect_2 {D : va_G} {ca : Nat → ClassId} {ad : Nat → Int → Nat → Nat} {L : List Nat} {aS vS : Nat → Nat} {A : Nat → Prop} {p : Program} {l : Launch} {e : Env} {s : State} {m : MethodId} {args : Array Value} {below : List Frame} {meth : Method} {c : Code} {K : Nat} {r : Int} {F9 : zF} {B9 : zB} (X : zX D ca L aS vS A p s m args meth c prog_15_method_137_code 4 (Option.none : Option Jvm.ClassFile.FieldType) "StaveHouseModel") : ∀ {n : Nat} {l2 : Int} {l1 : Nat} {F : zF} {B : zB} {H : Heap} {locs : List Loc} {ls : Array Slot}, f_M_expect_2 K n l2 l1 F B = some (r, F9, B9) → zH D ca ad lnM nM L F B A H → va_S A s.heap H locs → lv_has ls 4 [(2, .int (iI l2)), (0, .ref (ad 14 0 0)), (1, .ref (aS l1))] → W p l e ({ frames := 4, cells := 0, slots := 0, locals := 85 } : Room) s m args below meth c H locs 0 0 (MQ below (Q_M_expect D ca ad L r F9 B9 A) args s 0 0 A) (F0 m 2 ls []) := by
  obtain ⟨hx, hb, hr, hml, hown, hts, hlk, hK, hA, hL, hX⟩ := id X
  intro n
  induction n with
  | zero =>
    intros
    rename_i hf _ _ _
    cases hf
  | succ n ih =>
    intro l2 l1 F B H locs ls hf hZ hS hl
    replace hf : (if l1 < strL.length then zbind (f_String_length K l1 F B) (fun r2 F2 B2 => if r32 l2 then if r32 r2 then (if r2 ≤ l2 then some (0, F2, B2) else zbind (f_M_next K F2 B2) (fun r6 F6 B6 => zbind (f_M_good K F6 B6) (fun r7 F7 B7 => if r32 r7 then (if r7 = 0 then f_M_expect_42 (f_M_expect_2 K n) K l2 l1 F7 B7 else zbind (f_String_charAt K l1 l2 F7 B7) (fun r10 F10 B10 => if r32 r6 then if r32 r10 then (if r6 = r10 then f_M_expect_42 (f_M_expect_2 K n) K l2 l1 F10 B10 else zbind (f_M_failByte K 1 ((F10 14 0 89) - 1) F10 B10) (fun r14 F14 B14 => f_M_expect_42 (f_M_expect_2 K n) K l2 l1 F14 B14)) else none else none)) else none))) else none else none) else none) = some (r, F9, B9) := hf
    refine lv_iload_n hx hb (D_28 W_prog_15_method_137_code_0 2 rfl rfl) rfl (lv_at hl 0 rfl) ?_
    refine lv_aload_n hx hb (D_43 W_prog_15_method_137_code_0 3 rfl rfl) rfl (lv_at hl 2 rfl) ?_
    obtain ⟨g1, hf⟩ := gif hf
    obtain ⟨r2, F2, B2, hc2, hf⟩ := gbind hf
    refine va_calli (va_runV (As := []) (rest := [.int (iI l2)]) ⟨hx, hb, hml, hown, hts⟩ (c_String_length (l := l) hc2) (cwV 0 hts (gdV k_10_194 k_3_82 k_3_83 k_1_11 k_3_84) rfl rfl rfl (by decide +kernel) ⟨Nat.le_of_ble_eq_true rfl, Nat.le_of_ble_eq_true rfl⟩) ⟨zBlind, zsrecv hX g1 hS, zAt X hZ hS [.ref (aS l1)]⟩ rfl rfl hl.1 rfl (lv_room (Nat.le_of_ble_eq_true rfl)) (D_182 W_prog_15_method_137_code_0 4 rfl rfl rfl) ⟨Nat.le_of_ble_eq_true rfl, Nat.le_of_ble_eq_true rfl⟩) hS (fun q _ h => zAin X hS q h) (zAin X hS) (fun p2 u2 t2 H2 locs2 ht2 hv2 hw2 hB2 hz2 hk2 hS2 => ?_)
    have hZ2 := zBack X ht2 hB2
    subst hw2
    obtain ⟨g3, hf⟩ := gif hf
    obtain ⟨g4, hf⟩ := gif hf
    refine zge (tgt := 48) hx hb g3 g4 (D_162 W_prog_15_method_137_code_0 7 rfl rfl rfl) (by decide) (fun h5 => ?_) (fun h5 => ?_)
    · replace hf := gpos hf h5
      cases hf
      exact W.vret hx hb hr (fun t ht hW => ⟨⟨(), rfl, trivial, by rw [ht]; exact hZ2, va_K.moved hW.alike hK⟩, hS2.F ht⟩) hS2.2.2 (D_177 W_prog_15_method_137_code_32 16 rfl rfl) hlk
    · replace hf := gneg hf h5
      refine lv_aload_n hx hb (D_42 W_prog_15_method_137_code_0 10 rfl rfl) rfl (lv_at hl 1 rfl) ?_
      obtain ⟨r6, F6, B6, hc6, hf⟩ := gbind hf
      refine va_calli (va_runV (As := []) (rest := []) ⟨hx, hb, hml, hown, hts⟩ (c_M_next (l := l) hc6) (cwV 0 hts (gdV k_13_11 k_13_13 ks_151 k_1_9 k_13_14) rfl rfl rfl (by decide +kernel) ⟨Nat.le_of_ble_eq_true rfl, Nat.le_of_ble_eq_true rfl⟩) (zPV X hZ2 hS2 (ci := 14) (by decide) (by decide) (r := (RX14, TX14, 107)) rfl []) rfl rfl hl.1 rfl (lv_room (Nat.le_of_ble_eq_true rfl)) (D_182 W_prog_15_method_137_code_0 11 rfl rfl rfl) ⟨Nat.le_of_ble_eq_true rfl, Nat.le_of_ble_eq_true rfl⟩) hS2 (fun q _ h => zAin X hS2 q h) (zAin X hS2) (fun p6 u6 t6 H6 locs6 ht6 hv6 hw6 hB6 hz6 hk6 hS6 => ?_)
      have hZ6 := zBack X ht6 hB6
      subst hw6
      refine lv_istore_n (lv' := [(3, .int (iI r6)), (2, .int (iI l2)), (0, .ref (ad 14 0 0)), (1, .ref (aS l1))]) hx hb (D_62 W_prog_15_method_137_code_0 14 rfl rfl) rfl hl (by decide) rfl (fun ls hl => ?_)
      refine lv_aload_n hx hb (D_42 W_prog_15_method_137_code_0 15 rfl rfl) rfl (lv_at hl 2 rfl) ?_
      obtain ⟨r7, F7, B7, hc7, hf⟩ := gbind hf
      refine va_calli (va_runV (As := []) (rest := []) ⟨hx, hb, hml, hown, hts⟩ (c_M_good (l := l) hc7) (cwV 0 hts (gdV k_13_15 k_13_17 ks_152 k_1_9 k_13_18) rfl rfl rfl (by decide +kernel) ⟨Nat.le_of_ble_eq_true rfl, Nat.le_of_ble_eq_true rfl⟩) (zPV X hZ6 hS6 (ci := 14) (by decide) (by decide) (r := (RX14, TX14, 107)) rfl []) rfl rfl hl.1 rfl (lv_room (Nat.le_of_ble_eq_true rfl)) (D_182 W_prog_15_method_137_code_0 16 rfl rfl rfl) ⟨Nat.le_of_ble_eq_true rfl, Nat.le_of_ble_eq_true rfl⟩) hS6 (fun q _ h => zAin X hS6 q h) (zAin X hS6) (fun p7 u7 t7 H7 locs7 ht7 hv7 hw7 hB7 hz7 hk7 hS7 => ?_)
      have hZ7 := zBack X ht7 hB7
      subst hw7
      obtain ⟨g8, hf⟩ := gif hf
      refine z0eq (tgt := 42) hx hb g8 (D_153 W_prog_15_method_137_code_0 19 rfl rfl rfl) (by decide) (fun h9 => ?_) (fun h9 => ?_)
      · replace hf := gpos hf h9
        exact b_M_expect_42 X ih hf hZ7 hS7 (lv_sub hl [1, 2, 3] rfl)
      · replace hf := gneg hf h9
        refine lv_iload_n hx hb (D_29 W_prog_15_method_137_code_0 22 rfl rfl) rfl (lv_at hl 0 rfl) ?_
        refine lv_aload_n hx hb (D_43 W_prog_15_method_137_code_0 23 rfl rfl) rfl (lv_at hl 3 rfl) ?_
        refine lv_iload_n hx hb (D_28 W_prog_15_method_137_code_0 24 rfl rfl) rfl (lv_at hl 1 rfl) ?_
        obtain ⟨r10, F10, B10, hc10, hf⟩ := gbind hf
        refine va_calli (va_runV (As := [.int (iI l2)]) (rest := [.int (iI r6)]) ⟨hx, hb, hml, hown, hts⟩ (c_String_charAt (l := l) hc10) (cwV 1 hts (gdV k_10_195 k_7_134 k_7_135 k_1_11 k_7_136) rfl rfl rfl (by decide +kernel) ⟨Nat.le_of_ble_eq_true rfl, Nat.le_of_ble_eq_true rfl⟩) ⟨zBlind, zsrecv hX g1 hS7, zAt X hZ7 hS7 [.ref (aS l1), .int (iI l2)]⟩ rfl rfl hl.1 rfl (lv_room (Nat.le_of_ble_eq_true rfl)) (D_182 W_prog_15_method_137_code_0 25 rfl rfl rfl) ⟨Nat.le_of_ble_eq_true rfl, Nat.le_of_ble_eq_true rfl⟩) hS7 (fun q _ h => zAin X hS7 q h) (zAin X hS7) (fun p10 u10 t10 H10 locs10 ht10 hv10 hw10 hB10 hz10 hk10 hS10 => ?_)
        have hZ10 := zBack X ht10 hB10
        subst hw10
        obtain ⟨g11, hf⟩ := gif hf
        obtain ⟨g12, hf⟩ := gif hf
        refine zeq (tgt := 42) hx hb g11 g12 (D_159 W_prog_15_method_137_code_0 28 rfl rfl rfl) (by decide) (fun h13 => ?_) (fun h13 => ?_)
        · replace hf := gpos hf h13
          exact b_M_expect_42 X ih hf hZ10 hS10 (lv_sub hl [1, 2, 3] rfl)
        · replace hf := gneg hf h13
          refine lv_aload_n hx hb (D_42 W_prog_15_method_137_code_0 31 rfl rfl) rfl (lv_at hl 2 rfl) ?_
          refine lv_iconst (v := iI 1) hx hb (D_4 W_prog_15_method_137_code_32 0 rfl rfl) rfl ?_
          refine lv_aload_n hx hb (D_42 W_prog_15_method_137_code_32 1 rfl rfl) rfl (lv_at hl 2 rfl) ?_
          refine zget (ci := 14) (C := RX14) (T := TX14) (v := .int (iI (F10 14 0 89))) (k := 89) hx hb hts inW_14 hown hK hZ10 (by decide) (by decide) rfl (by decide) k_11_87 rfl (D_180 W_prog_15_method_137_code_32 2 rfl rfl rfl) ?_
          refine lv_iconst (v := iI 1) hx hb (D_4 W_prog_15_method_137_code_32 5 rfl rfl) rfl ?_
          refine zsub hx hb (D_100 W_prog_15_method_137_code_32 6 rfl rfl) ?_
          obtain ⟨r14, F14, B14, hc14, hf⟩ := gbind hf
          refine va_callv (va_runV (As := [.int (iI 1), .int (iI ((F10 14 0 89) - 1))]) (rest := []) ⟨hx, hb, hml, hown, hts⟩ (c_M_failByte (l := l) hc14) (cwV 2 hts (gdV k_13_19 k_13_21 ks_153 k_1_9 k_13_22) rfl rfl rfl (by decide +kernel) ⟨Nat.le_of_ble_eq_true rfl, Nat.le_of_ble_eq_true rfl⟩) (zPV X hZ10 hS10 (ci := 14) (by decide) (by decide) (r := (RX14, TX14, 107)) rfl [.int (iI 1), .int (iI ((F10 14 0 89) - 1))]) rfl rfl hl.1 rfl (lv_room (Nat.le_of_ble_eq_true rfl)) (D_182 W_prog_15_method_137_code_32 7 rfl rfl rfl) ⟨Nat.le_of_ble_eq_true rfl, Nat.le_of_ble_eq_true rfl⟩) hS10 (fun q _ h => zAin X hS10 q h) (zAin X hS10) (fun u14 t14 H14 locs14 ht14 hv14 hw14 hB14 hz14 hk14 hS14 => ?_)
          have hZ14 := zBack X ht14 hB14
          exact b_M_expect_42 X ih hf hZ14 hS14 (lv_sub hl [1, 2, 3] rfl)

def f_M_expect (K : Nat) (l1 : Nat) (F : zF) (B : zB) : zO := f_M_expect_2 K K 0 l1 F B
set_option maxHeartbeats 4000000 in
set_option maxRecDepth 100000 in
theorem c_M_expect {l : Launch} {D : va_G} {ca : Nat → ClassId} {ad : Nat → Int → Nat → Nat} {L : List Nat} {aS vS : Nat → Nat} {sz K : Nat}  {l1 : Nat} {F F9 : zF} {B B9 : zB} {r : Int} (hf : f_M_expect K l1 F B = some (r, F9, B9)) : Met l ({ cls := "StaveHouseModel", name := "expect", desc := "(Ljava/lang/String;)V" } : Jvm.MethodName) (Cond.code ({ cls := "StaveHouseModel", name := "expect", desc := "(Ljava/lang/String;)V" } : Jvm.MethodName) prog_15_method_137_code 4 (Option.none : Option Jvm.ClassFile.FieldType) :: wAll) ({ frames := 4, cells := 0, slots := 0, locals := 85 } : Room) (va_Pc [.ref (ad 14 0 0), .ref (aS l1)] (zPre D ca ad lnM nM L aS vS F B sz)) (Q_M_expect D ca ad L r F9 B9 (zA L sz)) 0 0 (zA L sz) := by
  refine zMet (Qc := Q_M_expect D ca ad L r F9 B9) (lv := [(0, .ref (ad 14 0 0)), (1, .ref (aS l1))]) (by decide) (Nat.le_of_ble_eq_true rfl) rfl (fun A p e s m below meth c ls X hZ hS hl => ?_)
  obtain ⟨hx, hb, hr, hml, hown, hts, hlk, hK, hA, hL, hX⟩ := id X
  replace hf : (f_M_expect_2 K K 0 l1 F B) = some (r, F9, B9) := hf
  refine lv_iconst (v := iI 0) hx hb (D_3 W_prog_15_method_137_code_0 0 rfl rfl) rfl ?_
  refine lv_istore_n (lv' := [(2, .int (iI 0)), (0, .ref (ad 14 0 0)), (1, .ref (aS l1))]) hx hb (D_61 W_prog_15_method_137_code_0 1 rfl rfl) rfl hl (by decide) rfl (fun ls hl => ?_)
  exact b_M_expect_2 X hf hZ hS (lv_sub hl [0, 1, 2] rfl)

abbrev Q_M_meta (D : va_G) (ca : Nat → ClassId) (ad : Nat → Int → Nat → Nat) (L : List Nat) (r : Int) (F : zF) (B : zB) (A : Nat → Prop) : Array Value → State → Outcome → State → Prop := va_Qi (S := Unit) (fun p _ => p = iI r) (fun _ => zPo D ca ad lnM nM L F B A) A
def f_M_meta_335 (K : Nat) (s0 : Int) (F : zF) (B : zB) : zO := if (s0 = 0 ∨ s0 = 1) then some (s0, F, B) else none
set_option maxHeartbeats 4000000 in
set_option maxRecDepth 100000 in
theorem b_M_meta_335 {D : va_G} {ca : Nat → ClassId} {ad : Nat → Int → Nat → Nat} {L : List Nat} {aS vS : Nat → Nat} {A : Nat → Prop} {p : Program} {l : Launch} {e : Env} {s : State} {m : MethodId} {args : Array Value} {below : List Frame} {meth : Method} {c : Code} {K : Nat} {r : Int} {F9 : zF} {B9 : zB} (X : zX D ca L aS vS A p s m args meth c prog_15_method_148_code 8 (Option.some Jvm.ClassFile.FieldType.boolean) "StaveHouseModel") {s0 : Int} {F : zF} {B : zB} {H : Heap} {locs : List Loc} {ls : Array Slot} (hf : f_M_meta_335 K s0 F B = some (r, F9, B9)) (hZ : zH D ca ad lnM nM L F B A H) (hS : va_S A s.heap H locs) (hl : lv_has ls 8 []) : W p l e ({ frames := 3, cells := 0, slots := 0, locals := 65 } : Room) s m args below meth c H locs 0 0 (MQ below (Q_M_meta D ca ad L r F9 B9 A) args s 0 0 A) (F0 m 335 ls [.int (iI s0)]) := by
  obtain ⟨hx, hb, hr, hml, hown, hts, hlk, hK, hA, hL, hX⟩ := id X
  replace hf : (if (s0 = 0 ∨ s0 = 1) then some (s0, F, B) else none) = some (r, F9, B9) := hf
  obtain ⟨g71, hf⟩ := gif hf
  cases hf
  exact W.zret hx hb hr (zbool g71) (fun t ht hW => ⟨⟨_, (), rfl, rfl, by rw [ht]; exact hZ, va_K.moved hW.alike hK⟩, hS.F ht⟩) hS.2.2 (D_172 W_prog_15_method_148_code_320 15 rfl rfl) hlk

def f_M_meta_324 (K : Nat) (l1 : Int) (F : zF) (B : zB) : zO := if r32 l1 then (if l1 = 47 then f_M_meta_335 K 1 F B else f_M_meta_335 K 0 F B) else none
set_option maxHeartbeats 4000000 in
set_option maxRecDepth 100000 in
theorem b_M_meta_324 {D : va_G} {ca : Nat → ClassId} {ad : Nat → Int → Nat → Nat} {L : List Nat} {aS vS : Nat → Nat} {A : Nat → Prop} {p : Program} {l : Launch} {e : Env} {s : State} {m : MethodId} {args : Array Value} {below : List Frame} {meth : Method} {c : Code} {K : Nat} {r : Int} {F9 : zF} {B9 : zB} (X : zX D ca L aS vS A p s m args meth c prog_15_method_148_code 8 (Option.some Jvm.ClassFile.FieldType.boolean) "StaveHouseModel") {l1 : Int} {F : zF} {B : zB} {H : Heap} {locs : List Loc} {ls : Array Slot} (hf : f_M_meta_324 K l1 F B = some (r, F9, B9)) (hZ : zH D ca ad lnM nM L F B A H) (hS : va_S A s.heap H locs) (hl : lv_has ls 8 [(1, .int (iI l1))]) : W p l e ({ frames := 3, cells := 0, slots := 0, locals := 65 } : Room) s m args below meth c H locs 0 0 (MQ below (Q_M_meta D ca ad L r F9 B9 A) args s 0 0 A) (F0 m 324 ls []) := by
  obtain ⟨hx, hb, hr, hml, hown, hts, hlk, hK, hA, hL, hX⟩ := id X
  replace hf : (if r32 l1 then (if l1 = 47 then f_M_meta_335 K 1 F B else f_M_meta_335 K 0 F B) else none) = some (r, F9, B9) := hf
  refine lv_iload_n hx hb (D_27 W_prog_15_method_148_code_320 4 rfl rfl) rfl (lv_at hl 0 rfl) ?_
  refine lv_bipush (v := iI 47) hx hb (D_16 W_prog_15_method_148_code_320 5 rfl rfl rfl) (by decide) ?_
  obtain ⟨g69, hf⟩ := gif hf
  refine zne (tgt := 334) hx hb g69 (by decide) (D_160 W_prog_15_method_148_code_320 7 rfl rfl rfl) (by decide) (fun h70 => ?_) (fun h70 => ?_)
  · replace hf := gneg hf h70
    refine lv_iconst (v := iI 0) hx hb (D_3 W_prog_15_method_148_code_320 14 rfl rfl) rfl ?_
    exact b_M_meta_335 X hf hZ hS (lv_sub hl [] rfl)
  · replace hf := gpos hf h70
    refine lv_iconst (v := iI 1) hx hb (D_4 W_prog_15_method_148_code_320 10 rfl rfl) rfl ?_
    refine lv_goto (tgt := 335) hx hb (D_167 W_prog_15_method_148_code_320 11 rfl rfl rfl) (by decide) ?_
    exact b_M_meta_335 X hf hZ hS (lv_sub hl [] rfl)

def f_M_meta_323 (K : Nat) (l1 : Int) (s1 : Int) (s2 : Int) (F : zF) (B : zB) : zO := if 0 ≤ s1 ∧ s1 < 8 then f_M_meta_324 K l1 F (zup4 B 14 0 74 s1 s2) else none
set_option maxHeartbeats 4000000 in
set_option maxRecDepth 100000 in
theorem b_M_meta_323 {D : va_G} {ca : Nat → ClassId} {ad : Nat → Int → Nat → Nat} {L : List Nat} {aS vS : Nat → Nat} {A : Nat → Prop} {p : Program} {l : Launch} {e : Env} {s : State} {m : MethodId} {args : Array Value} {below : List Frame} {meth : Method} {c : Code} {K : Nat} {r : Int} {F9 : zF} {B9 : zB} (X : zX D ca L aS vS A p s m args meth c prog_15_method_148_code 8 (Option.some Jvm.ClassFile.FieldType.boolean) "StaveHouseModel") {l1 : Int} {s1 : Int} {s2 : Int} {F : zF} {B : zB} {H : Heap} {locs : List Loc} {ls : Array Slot} (hf : f_M_meta_323 K l1 s1 s2 F B = some (r, F9, B9)) (hZ : zH D ca ad lnM nM L F B A H) (hS : va_S A s.heap H locs) (hl : lv_has ls 8 [(1, .int (iI l1))]) : W p l e ({ frames := 3, cells := 0, slots := 0, locals := 65 } : Room) s m args below meth c H locs 0 0 (MQ below (Q_M_meta D ca ad L r F9 B9 A) args s 0 0 A) (F0 m 323 ls [.int (iI s2), .int (iI s1), .ref (ad 14 0 (74 + 1))]) := by
  obtain ⟨hx, hb, hr, hml, hown, hts, hlk, hK, hA, hL, hX⟩ := id X
  replace hf : (if 0 ≤ s1 ∧ s1 < 8 then f_M_meta_324 K l1 F (zup4 B 14 0 74 s1 s2) else none) = some (r, F9, B9) := hf
  obtain ⟨g67, hf⟩ := gif hf
  refine zast (ci := 14) (k := 74) hx hb hK rfl hZ hS (by decide) (by decide) rfl (Nat.le_of_ble_eq_true rfl) g67.1 g67.2 (D_79 W_prog_15_method_148_code_320 3 rfl rfl) (fun H68 locs68 hZ68 hS68 => ?_)
  exact b_M_meta_324 X hf hZ68 hS68 (lv_sub hl [0] rfl)

def f_M_meta_287 (K : Nat) (l1 : Int) (s0 : Int) (F : zF) (B : zB) : zO := if r32 s0 then (if 20 ≤ s0 then (if s0 ≤ 300 then f_M_meta_323 K l1 6 s0 F B else f_M_meta_323 K l1 6 300 F B) else f_M_meta_323 K l1 6 20 F B) else none
set_option maxHeartbeats 4000000 in
set_option maxRecDepth 100000 in
theorem b_M_meta_287 {D : va_G} {ca : Nat → ClassId} {ad : Nat → Int → Nat → Nat} {L : List Nat} {aS vS : Nat → Nat} {A : Nat → Prop} {p : Program} {l : Launch} {e : Env} {s : State} {m : MethodId} {args : Array Value} {below : List Frame} {meth : Method} {c : Code} {K : Nat} {r : Int} {F9 : zF} {B9 : zB} (X : zX D ca L aS vS A p s m args meth c prog_15_method_148_code 8 (Option.some Jvm.ClassFile.FieldType.boolean) "StaveHouseModel") {l1 : Int} {s0 : Int} {F : zF} {B : zB} {H : Heap} {locs : List Loc} {ls : Array Slot} (hf : f_M_meta_287 K l1 s0 F B = some (r, F9, B9)) (hZ : zH D ca ad lnM nM L F B A H) (hS : va_S A s.heap H locs) (hl : lv_has ls 8 [(1, .int (iI l1)), (0, .ref (ad 14 0 0))]) : W p l e ({ frames := 3, cells := 0, slots := 0, locals := 65 } : Room) s m args below meth c H locs 0 0 (MQ below (Q_M_meta D ca ad L r F9 B9 A) args s 0 0 A) (F0 m 287 ls [.int (iI s0)]) := by
  obtain ⟨hx, hb, hr, hml, hown, hts, hlk, hK, hA, hL, hX⟩ := id X
  replace hf : (if r32 s0 then (if 20 ≤ s0 then (if s0 ≤ 300 then f_M_meta_323 K l1 6 s0 F B else f_M_meta_323 K l1 6 300 F B) else f_M_meta_323 K l1 6 20 F B) else none) = some (r, F9, B9) := hf
  refine lv_istore (lv' := [(7, .int (iI s0)), (1, .int (iI l1)), (0, .ref (ad 14 0 0))]) hx hb (D_54 W_prog_15_method_148_code_256 31 rfl rfl) hl (by decide) rfl (fun ls hl => ?_)
  refine lv_aload_n hx hb (D_42 W_prog_15_method_148_code_288 1 rfl rfl) rfl (lv_at hl 2 rfl) ?_
  refine zget (ci := 14) (C := RX14) (T := TX14) (v := .ref (ad 14 0 (74 + 1))) (k := 74) hx hb hts inW_14 hown hK hZ (by decide) (by decide) rfl (by decide) k_11_72 rfl (D_180 W_prog_15_method_148_code_288 2 rfl rfl rfl) ?_
  refine lv_bipush (v := iI 6) hx hb (D_16 W_prog_15_method_148_code_288 5 rfl rfl rfl) (by decide) ?_
  refine lv_iload hx hb (D_21 W_prog_15_method_148_code_288 7 rfl rfl) (lv_at hl 0 rfl) ?_
  refine lv_bipush (v := iI 20) hx hb (D_16 W_prog_15_method_148_code_288 9 rfl rfl rfl) (by decide) ?_
  obtain ⟨g63, hf⟩ := gif hf
  refine zge (tgt := 307) hx hb g63 (by decide) (D_162 W_prog_15_method_148_code_288 11 rfl rfl rfl) (by decide) (fun h65 => ?_) (fun h65 => ?_)
  · replace hf := gpos hf h65
    refine lv_iload hx hb (D_21 W_prog_15_method_148_code_288 19 rfl rfl) (lv_at hl 0 rfl) ?_
    refine lv_sipush (v := iI 300) hx hb (D_17 W_prog_15_method_148_code_288 21 rfl rfl rfl) (by decide) ?_
    refine zle (tgt := 321) hx hb g63 (by decide) (D_164 W_prog_15_method_148_code_288 24 rfl rfl rfl) (by decide) (fun h66 => ?_) (fun h66 => ?_)
    · replace hf := gpos hf h66
      refine lv_iload hx hb (D_21 W_prog_15_method_148_code_320 1 rfl rfl) (lv_at hl 0 rfl) ?_
      exact b_M_meta_323 X hf hZ hS (lv_sub hl [1] rfl)
    · replace hf := gneg hf h66
      refine lv_sipush (v := iI 300) hx hb (D_17 W_prog_15_method_148_code_288 27 rfl rfl rfl) (by decide) ?_
      refine lv_goto (tgt := 323) hx hb (D_167 W_prog_15_method_148_code_288 30 rfl rfl rfl) (by decide) ?_
      exact b_M_meta_323 X hf hZ hS (lv_sub hl [1] rfl)
  · replace hf := gneg hf h65
    refine lv_bipush (v := iI 20) hx hb (D_16 W_prog_15_method_148_code_288 14 rfl rfl rfl) (by decide) ?_
    refine lv_goto (tgt := 323) hx hb (D_167 W_prog_15_method_148_code_288 16 rfl rfl rfl) (by decide) ?_
    exact b_M_meta_323 X hf hZ hS (lv_sub hl [1] rfl)

def f_M_meta_226 (K : Nat) (l5 : Int) (l4 : Int) (l3 : Int) (l2 : Int) (l1 : Int) (F : zF) (B : zB) : zO := if r32 l1 then (if l1 = 81 then if r32 l2 then (if l2 = 3 then if r32 (F 14 0 93) then (if (F 14 0 93) = 0 then zbind (f_M_byteAt K (l3 + 2) (zup3 F 14 0 93 1) B) (fun r59 F59 B59 => if r32 (zor (zor (zshl l4 16) (zshl l5 8)) r59) then (if (zor (zor (zshl l4 16) (zshl l5 8)) r59) = 0 then f_M_meta_287 K l1 300 F59 B59 else if ¬ iI (zor (zor (zshl l4 16) (zshl l5 8)) r59) = 0 then f_M_meta_287 K l1 (zdv 60000000 (zor (zor (zshl l4 16) (zshl l5 8)) r59)) F59 B59 else none) else none) else f_M_meta_324 K l1 F B) else none else f_M_meta_324 K l1 F B) else none else f_M_meta_324 K l1 F B) else none
set_option maxHeartbeats 4000000 in
set_option maxRecDepth 100000 in
theorem b_M_meta_226 {D : va_G} {ca : Nat → ClassId} {ad : Nat → Int → Nat → Nat} {L : List Nat} {aS vS : Nat → Nat} {A : Nat → Prop} {p : Program} {l : Launch} {e : Env} {s : State} {m : MethodId} {args : Array Value} {below : List Frame} {meth : Method} {c : Code} {K : Nat} {r : Int} {F9 : zF} {B9 : zB} (X : zX D ca L aS vS A p s m args meth c prog_15_method_148_code 8 (Option.some Jvm.ClassFile.FieldType.boolean) "StaveHouseModel") {l5 : Int} {l4 : Int} {l3 : Int} {l2 : Int} {l1 : Int} {F : zF} {B : zB} {H : Heap} {locs : List Loc} {ls : Array Slot} (hf : f_M_meta_226 K l5 l4 l3 l2 l1 F B = some (r, F9, B9)) (hZ : zH D ca ad lnM nM L F B A H) (hS : va_S A s.heap H locs) (hl : lv_has ls 8 [(5, .int (iI l5)), (4, .int (iI l4)), (3, .int (iI l3)), (2, .int (iI l2)), (1, .int (iI l1)), (0, .ref (ad 14 0 0))]) : W p l e ({ frames := 3, cells := 0, slots := 0, locals := 65 } : Room) s m args below meth c H locs 0 0 (MQ below (Q_M_meta D ca ad L r F9 B9 A) args s 0 0 A) (F0 m 226 ls []) := by
  obtain ⟨hx, hb, hr, hml, hown, hts, hlk, hK, hA, hL, hX⟩ := id X
  replace hf : (if r32 l1 then (if l1 = 81 then if r32 l2 then (if l2 = 3 then if r32 (F 14 0 93) then (if (F 14 0 93) = 0 then zbind (f_M_byteAt K (l3 + 2) (zup3 F 14 0 93 1) B) (fun r59 F59 B59 => if r32 (zor (zor (zshl l4 16) (zshl l5 8)) r59) then (if (zor (zor (zshl l4 16) (zshl l5 8)) r59) = 0 then f_M_meta_287 K l1 300 F59 B59 else if ¬ iI (zor (zor (zshl l4 16) (zshl l5 8)) r59) = 0 then f_M_meta_287 K l1 (zdv 60000000 (zor (zor (zshl l4 16) (zshl l5 8)) r59)) F59 B59 else none) else none) else f_M_meta_324 K l1 F B) else none else f_M_meta_324 K l1 F B) else none else f_M_meta_324 K l1 F B) else none) = some (r, F9, B9) := hf
  refine lv_iload_n hx hb (D_27 W_prog_15_method_148_code_224 2 rfl rfl) rfl (lv_at hl 4 rfl) ?_
  refine lv_bipush (v := iI 81) hx hb (D_16 W_prog_15_method_148_code_224 3 rfl rfl rfl) (by decide) ?_
  obtain ⟨g52, hf⟩ := gif hf
  refine zne (tgt := 324) hx hb g52 (by decide) (D_160 W_prog_15_method_148_code_224 5 rfl rfl rfl) (by decide) (fun h53 => ?_) (fun h53 => ?_)
  · replace hf := gneg hf h53
    exact b_M_meta_324 X hf hZ hS (lv_sub hl [4] rfl)
  · replace hf := gpos hf h53
    refine lv_iload_n hx hb (D_28 W_prog_15_method_148_code_224 8 rfl rfl) rfl (lv_at hl 3 rfl) ?_
    refine lv_iconst (v := iI 3) hx hb (D_6 W_prog_15_method_148_code_224 9 rfl rfl) rfl ?_
    obtain ⟨g54, hf⟩ := gif hf
    refine zne (tgt := 324) hx hb g54 (by decide) (D_160 W_prog_15_method_148_code_224 10 rfl rfl rfl) (by decide) (fun h55 => ?_) (fun h55 => ?_)
    · replace hf := gneg hf h55
      exact b_M_meta_324 X hf hZ hS (lv_sub hl [4] rfl)
    · replace hf := gpos hf h55
      refine lv_aload_n hx hb (D_42 W_prog_15_method_148_code_224 13 rfl rfl) rfl (lv_at hl 5 rfl) ?_
      refine zget (ci := 14) (C := RX14) (T := TX14) (v := .int (iI (F 14 0 93))) (k := 93) hx hb hts inW_14 hown hK hZ (by decide) (by decide) rfl (by decide) k_11_91 rfl (D_180 W_prog_15_method_148_code_224 14 rfl rfl rfl) ?_
      obtain ⟨g56, hf⟩ := gif hf
      refine z0ne (tgt := 324) hx hb g56 (D_154 W_prog_15_method_148_code_224 17 rfl rfl rfl) (by decide) (fun h57 => ?_) (fun h57 => ?_)
      · replace hf := gneg hf h57
        exact b_M_meta_324 X hf hZ hS (lv_sub hl [4] rfl)
      · replace hf := gpos hf h57
        refine lv_aload_n hx hb (D_42 W_prog_15_method_148_code_224 20 rfl rfl) rfl (lv_at hl 5 rfl) ?_
        refine lv_iconst (v := iI 1) hx hb (D_4 W_prog_15_method_148_code_224 21 rfl rfl) rfl ?_
        refine zput (ci := 14) (C := RX14) (T := TX14) (k := 93) (v := 1) (w := .int (iI 1)) hx hb hts inW_14 tyX14 tyX14_ok nmX14 hown hK hZ hS (by decide) (by decide) rfl (by decide) k_11_91 rfl (fun G h => congrArg (fun q => Value.int (iI q)) h) rfl rfl (zno (by decide)) (D_181 W_prog_15_method_148_code_224 22 rfl rfl rfl) (fun H58 locs58 hZ58 hS58 => ?_)
        refine lv_iload hx hb (D_21 W_prog_15_method_148_code_224 25 rfl rfl) (lv_at hl 1 rfl) ?_
        refine lv_bipush (v := iI 16) hx hb (D_16 W_prog_15_method_148_code_224 27 rfl rfl rfl) (by decide) ?_
        refine zshl_r hx hb (D_120 W_prog_15_method_148_code_224 29 rfl rfl) ?_
        refine lv_iload hx hb (D_21 W_prog_15_method_148_code_224 30 rfl rfl) (lv_at hl 0 rfl) ?_
        refine lv_bipush (v := iI 8) hx hb (D_16 W_prog_15_method_148_code_256 0 rfl rfl rfl) (by decide) ?_
        refine zshl_r hx hb (D_120 W_prog_15_method_148_code_256 2 rfl rfl) ?_
        refine zor_r hx hb (D_128 W_prog_15_method_148_code_256 3 rfl rfl) ?_
        refine lv_aload_n hx hb (D_42 W_prog_15_method_148_code_256 4 rfl rfl) rfl (lv_at hl 5 rfl) ?_
        refine lv_iload_n hx hb (D_29 W_prog_15_method_148_code_256 5 rfl rfl) rfl (lv_at hl 2 rfl) ?_
        refine lv_iconst (v := iI 2) hx hb (D_5 W_prog_15_method_148_code_256 6 rfl rfl) rfl ?_
        refine zadd hx hb (D_96 W_prog_15_method_148_code_256 7 rfl rfl) ?_
        obtain ⟨r59, F59, B59, hc59, hf⟩ := gbind hf
        refine va_calli (va_runV (As := [.int (iI (l3 + 2))]) (rest := [.int (iI (zor (zshl l4 16) (zshl l5 8)))]) ⟨hx, hb, hml, hown, hts⟩ (c_M_byteAt (l := l) hc59) (cwV 1 hts (gdV k_13_23 k_13_25 ks_154 k_1_9 k_13_26) rfl rfl rfl (by decide +kernel) ⟨Nat.le_of_ble_eq_true rfl, Nat.le_of_ble_eq_true rfl⟩) (zPV X hZ58 hS58 (ci := 14) (by decide) (by decide) (r := (RX14, TX14, 107)) rfl [.int (iI (l3 + 2))]) rfl rfl hl.1 rfl (lv_room (Nat.le_of_ble_eq_true rfl)) (D_182 W_prog_15_method_148_code_256 8 rfl rfl rfl) ⟨Nat.le_of_ble_eq_true rfl, Nat.le_of_ble_eq_true rfl⟩) hS58 (fun q _ h => zAin X hS58 q h) (zAin X hS58) (fun p59 u59 t59 H59 locs59 ht59 hv59 hw59 hB59 hz59 hk59 hS59 => ?_)
        have hZ59 := zBack X ht59 hB59
        subst hw59
        refine zor_r hx hb (D_128 W_prog_15_method_148_code_256 11 rfl rfl) ?_
        refine lv_istore (lv' := [(6, .int (iI (zor (zor (zshl l4 16) (zshl l5 8)) r59))), (5, .int (iI l5)), (4, .int (iI l4)), (3, .int (iI l3)), (2, .int (iI l2)), (1, .int (iI l1)), (0, .ref (ad 14 0 0))]) hx hb (D_54 W_prog_15_method_148_code_256 12 rfl rfl) hl (by decide) rfl (fun ls hl => ?_)
        refine lv_iload hx hb (D_21 W_prog_15_method_148_code_256 14 rfl rfl) (lv_at hl 0 rfl) ?_
        obtain ⟨g60, hf⟩ := gif hf
        refine z0ne (tgt := 281) hx hb g60 (D_154 W_prog_15_method_148_code_256 16 rfl rfl rfl) (by decide) (fun h61 => ?_) (fun h61 => ?_)
        · replace hf := gneg hf h61
          refine lv_ldcw hx hb hown (hts _ k_12_212) (D_19 W_prog_15_method_148_code_256 25 rfl rfl rfl) ?_
          refine W.eq (g2 := F0 m 284 ls [.int (iI 60000000)]) rfl ?_
          refine lv_iload hx hb (D_21 W_prog_15_method_148_code_256 28 rfl rfl) (lv_at hl 0 rfl) ?_
          obtain ⟨g62, hf⟩ := gif hf
          refine zdv_r hx hb g62 (D_108 W_prog_15_method_148_code_256 30 rfl rfl) ?_
          exact b_M_meta_287 X hf hZ59 hS59 (lv_sub hl [5, 6] rfl)
        · replace hf := gpos hf h61
          refine lv_sipush (v := iI 300) hx hb (D_17 W_prog_15_method_148_code_256 19 rfl rfl rfl) (by decide) ?_
          refine lv_goto (tgt := 287) hx hb (D_167 W_prog_15_method_148_code_256 22 rfl rfl rfl) (by decide) ?_
          exact b_M_meta_287 X hf hZ59 hS59 (lv_sub hl [5, 6] rfl)

def f_M_meta_217 (K : Nat) (l5 : Int) (l4 : Int) (l3 : Int) (l2 : Int) (l1 : Int) (s1 : Int) (s2 : Int) (F : zF) (B : zB) : zO := if 0 ≤ s1 ∧ s1 < 8 then f_M_meta_226 K l5 l4 l3 l2 l1 F (zup4 (zup4 B 14 0 74 s1 s2) 14 0 74 3 l5) else none
set_option maxHeartbeats 4000000 in
set_option maxRecDepth 100000 in
theorem b_M_meta_217 {D : va_G} {ca : Nat → ClassId} {ad : Nat → Int → Nat → Nat} {L : List Nat} {aS vS : Nat → Nat} {A : Nat → Prop} {p : Program} {l : Launch} {e : Env} {s : State} {m : MethodId} {args : Array Value} {below : List Frame} {meth : Method} {c : Code} {K : Nat} {r : Int} {F9 : zF} {B9 : zB} (X : zX D ca L aS vS A p s m args meth c prog_15_method_148_code 8 (Option.some Jvm.ClassFile.FieldType.boolean) "StaveHouseModel") {l5 : Int} {l4 : Int} {l3 : Int} {l2 : Int} {l1 : Int} {s1 : Int} {s2 : Int} {F : zF} {B : zB} {H : Heap} {locs : List Loc} {ls : Array Slot} (hf : f_M_meta_217 K l5 l4 l3 l2 l1 s1 s2 F B = some (r, F9, B9)) (hZ : zH D ca ad lnM nM L F B A H) (hS : va_S A s.heap H locs) (hl : lv_has ls 8 [(5, .int (iI l5)), (4, .int (iI l4)), (3, .int (iI l3)), (2, .int (iI l2)), (1, .int (iI l1)), (0, .ref (ad 14 0 0))]) : W p l e ({ frames := 3, cells := 0, slots := 0, locals := 65 } : Room) s m args below meth c H locs 0 0 (MQ below (Q_M_meta D ca ad L r F9 B9 A) args s 0 0 A) (F0 m 217 ls [.int (iI s2), .int (iI s1), .ref (ad 14 0 (74 + 1))]) := by
  obtain ⟨hx, hb, hr, hml, hown, hts, hlk, hK, hA, hL, hX⟩ := id X
  replace hf : (if 0 ≤ s1 ∧ s1 < 8 then f_M_meta_226 K l5 l4 l3 l2 l1 F (zup4 (zup4 B 14 0 74 s1 s2) 14 0 74 3 l5) else none) = some (r, F9, B9) := hf
  obtain ⟨g49, hf⟩ := gif hf
  refine zast (ci := 14) (k := 74) hx hb hK rfl hZ hS (by decide) (by decide) rfl (Nat.le_of_ble_eq_true rfl) g49.1 g49.2 (D_79 W_prog_15_method_148_code_192 25 rfl rfl) (fun H50 locs50 hZ50 hS50 => ?_)
  refine lv_aload_n hx hb (D_42 W_prog_15_method_148_code_192 26 rfl rfl) rfl (lv_at hl 5 rfl) ?_
  refine zget (ci := 14) (C := RX14) (T := TX14) (v := .ref (ad 14 0 (74 + 1))) (k := 74) hx hb hts inW_14 hown hK hZ50 (by decide) (by decide) rfl (by decide) k_11_72 rfl (D_180 W_prog_15_method_148_code_192 27 rfl rfl rfl) ?_
  refine lv_iconst (v := iI 3) hx hb (D_6 W_prog_15_method_148_code_192 30 rfl rfl) rfl ?_
  refine lv_iload hx hb (D_21 W_prog_15_method_148_code_192 31 rfl rfl) (lv_at hl 0 rfl) ?_
  refine zast (ci := 14) (k := 74) hx hb hK rfl hZ50 hS50 (by decide) (by decide) rfl (Nat.le_of_ble_eq_true rfl) (by decide) (by decide) (D_79 W_prog_15_method_148_code_224 1 rfl rfl) (fun H51 locs51 hZ51 hS51 => ?_)
  exact b_M_meta_226 X hf hZ51 hS51 (lv_sub hl [0, 1, 2, 3, 4, 5] rfl)

def f_M_meta_183 (K : Nat) (l5 : Int) (l4 : Int) (l3 : Int) (l2 : Int) (l1 : Int) (F : zF) (B : zB) : zO := if r32 l5 then (if 1 < l5 then f_M_meta_226 K l5 l4 l3 l2 l1 F B else if r32 l4 then (if 7 < l4 then f_M_meta_217 K l5 l4 l3 l2 l1 2 (l4 - 256) (zup3 F 14 0 92 1) B else f_M_meta_217 K l5 l4 l3 l2 l1 2 l4 (zup3 F 14 0 92 1) B) else none) else none
set_option maxHeartbeats 4000000 in
set_option maxRecDepth 100000 in
theorem b_M_meta_183 {D : va_G} {ca : Nat → ClassId} {ad : Nat → Int → Nat → Nat} {L : List Nat} {aS vS : Nat → Nat} {A : Nat → Prop} {p : Program} {l : Launch} {e : Env} {s : State} {m : MethodId} {args : Array Value} {below : List Frame} {meth : Method} {c : Code} {K : Nat} {r : Int} {F9 : zF} {B9 : zB} (X : zX D ca L aS vS A p s m args meth c prog_15_method_148_code 8 (Option.some Jvm.ClassFile.FieldType.boolean) "StaveHouseModel") {l5 : Int} {l4 : Int} {l3 : Int} {l2 : Int} {l1 : Int} {F : zF} {B : zB} {H : Heap} {locs : List Loc} {ls : Array Slot} (hf : f_M_meta_183 K l5 l4 l3 l2 l1 F B = some (r, F9, B9)) (hZ : zH D ca ad lnM nM L F B A H) (hS : va_S A s.heap H locs) (hl : lv_has ls 8 [(5, .int (iI l5)), (4, .int (iI l4)), (3, .int (iI l3)), (2, .int (iI l2)), (1, .int (iI l1)), (0, .ref (ad 14 0 0))]) : W p l e ({ frames := 3, cells := 0, slots := 0, locals := 65 } : Room) s m args below meth c H locs 0 0 (MQ below (Q_M_meta D ca ad L r F9 B9 A) args s 0 0 A) (F0 m 183 ls []) := by
  obtain ⟨hx, hb, hr, hml, hown, hts, hlk, hK, hA, hL, hX⟩ := id X
  replace hf : (if r32 l5 then (if 1 < l5 then f_M_meta_226 K l5 l4 l3 l2 l1 F B else if r32 l4 then (if 7 < l4 then f_M_meta_217 K l5 l4 l3 l2 l1 2 (l4 - 256) (zup3 F 14 0 92 1) B else f_M_meta_217 K l5 l4 l3 l2 l1 2 l4 (zup3 F 14 0 92 1) B) else none) else none) = some (r, F9, B9) := hf
  refine lv_iload hx hb (D_21 W_prog_15_method_148_code_160 23 rfl rfl) (lv_at hl 0 rfl) ?_
  refine lv_iconst (v := iI 1) hx hb (D_4 W_prog_15_method_148_code_160 25 rfl rfl) rfl ?_
  obtain ⟨g44, hf⟩ := gif hf
  refine zgt (tgt := 226) hx hb g44 (by decide) (D_163 W_prog_15_method_148_code_160 26 rfl rfl rfl) (by decide) (fun h45 => ?_) (fun h45 => ?_)
  · replace hf := gpos hf h45
    exact b_M_meta_226 X hf hZ hS (lv_sub hl [0, 1, 2, 3, 4, 5] rfl)
  · replace hf := gneg hf h45
    refine lv_aload_n hx hb (D_42 W_prog_15_method_148_code_160 29 rfl rfl) rfl (lv_at hl 5 rfl) ?_
    refine lv_iconst (v := iI 1) hx hb (D_4 W_prog_15_method_148_code_160 30 rfl rfl) rfl ?_
    refine zput (ci := 14) (C := RX14) (T := TX14) (k := 92) (v := 1) (w := .int (iI 1)) hx hb hts inW_14 tyX14 tyX14_ok nmX14 hown hK hZ hS (by decide) (by decide) rfl (by decide) k_11_90 rfl (fun G h => congrArg (fun q => Value.int (iI q)) h) rfl rfl (zno (by decide)) (D_181 W_prog_15_method_148_code_160 31 rfl rfl rfl) (fun H46 locs46 hZ46 hS46 => ?_)
    refine lv_aload_n hx hb (D_42 W_prog_15_method_148_code_192 2 rfl rfl) rfl (lv_at hl 5 rfl) ?_
    refine zget (ci := 14) (C := RX14) (T := TX14) (v := .ref (ad 14 0 (74 + 1))) (k := 74) hx hb hts inW_14 hown hK hZ46 (by decide) (by decide) rfl (by decide) k_11_72 rfl (D_180 W_prog_15_method_148_code_192 3 rfl rfl rfl) ?_
    refine lv_iconst (v := iI 2) hx hb (D_5 W_prog_15_method_148_code_192 6 rfl rfl) rfl ?_
    refine lv_iload hx hb (D_21 W_prog_15_method_148_code_192 7 rfl rfl) (lv_at hl 1 rfl) ?_
    refine lv_bipush (v := iI 7) hx hb (D_16 W_prog_15_method_148_code_192 9 rfl rfl rfl) (by decide) ?_
    obtain ⟨g47, hf⟩ := gif hf
    refine zgt (tgt := 211) hx hb g47 (by decide) (D_163 W_prog_15_method_148_code_192 11 rfl rfl rfl) (by decide) (fun h48 => ?_) (fun h48 => ?_)
    · replace hf := gpos hf h48
      refine lv_iload hx hb (D_21 W_prog_15_method_148_code_192 19 rfl rfl) (lv_at hl 1 rfl) ?_
      refine lv_sipush (v := iI 256) hx hb (D_17 W_prog_15_method_148_code_192 21 rfl rfl rfl) (by decide) ?_
      refine zsub hx hb (D_100 W_prog_15_method_148_code_192 24 rfl rfl) ?_
      exact b_M_meta_217 X hf hZ46 hS46 (lv_sub hl [0, 1, 2, 3, 4, 5] rfl)
    · replace hf := gneg hf h48
      refine lv_iload hx hb (D_21 W_prog_15_method_148_code_192 14 rfl rfl) (lv_at hl 1 rfl) ?_
      refine lv_goto (tgt := 217) hx hb (D_167 W_prog_15_method_148_code_192 16 rfl rfl rfl) (by decide) ?_
      exact b_M_meta_217 X hf hZ46 hS46 (lv_sub hl [0, 1, 2, 3, 4, 5] rfl)

def f_M_meta_150 (K : Nat) (l5 : Int) (l4 : Int) (l3 : Int) (l2 : Int) (l1 : Int) (F : zF) (B : zB) : zO := if r32 l1 then (if l1 = 89 then if r32 l2 then (if l2 < 2 then f_M_meta_226 K l5 l4 l3 l2 l1 F B else if r32 (F 14 0 92) then (if (F 14 0 92) = 0 then if r32 l4 then (if l4 ≤ 7 then f_M_meta_183 K l5 l4 l3 l2 l1 F B else (if l4 < 249 then f_M_meta_226 K l5 l4 l3 l2 l1 F B else f_M_meta_183 K l5 l4 l3 l2 l1 F B)) else none else f_M_meta_226 K l5 l4 l3 l2 l1 F B) else none) else none else f_M_meta_226 K l5 l4 l3 l2 l1 F B) else none
set_option maxHeartbeats 4000000 in
set_option maxRecDepth 100000 in
theorem b_M_meta_150 {D : va_G} {ca : Nat → ClassId} {ad : Nat → Int → Nat → Nat} {L : List Nat} {aS vS : Nat → Nat} {A : Nat → Prop} {p : Program} {l : Launch} {e : Env} {s : State} {m : MethodId} {args : Array Value} {below : List Frame} {meth : Method} {c : Code} {K : Nat} {r : Int} {F9 : zF} {B9 : zB} (X : zX D ca L aS vS A p s m args meth c prog_15_method_148_code 8 (Option.some Jvm.ClassFile.FieldType.boolean) "StaveHouseModel") {l5 : Int} {l4 : Int} {l3 : Int} {l2 : Int} {l1 : Int} {F : zF} {B : zB} {H : Heap} {locs : List Loc} {ls : Array Slot} (hf : f_M_meta_150 K l5 l4 l3 l2 l1 F B = some (r, F9, B9)) (hZ : zH D ca ad lnM nM L F B A H) (hS : va_S A s.heap H locs) (hl : lv_has ls 8 [(5, .int (iI l5)), (4, .int (iI l4)), (3, .int (iI l3)), (2, .int (iI l2)), (1, .int (iI l1)), (0, .ref (ad 14 0 0))]) : W p l e ({ frames := 3, cells := 0, slots := 0, locals := 65 } : Room) s m args below meth c H locs 0 0 (MQ below (Q_M_meta D ca ad L r F9 B9 A) args s 0 0 A) (F0 m 150 ls []) := by
  obtain ⟨hx, hb, hr, hml, hown, hts, hlk, hK, hA, hL, hX⟩ := id X
  replace hf : (if r32 l1 then (if l1 = 89 then if r32 l2 then (if l2 < 2 then f_M_meta_226 K l5 l4 l3 l2 l1 F B else if r32 (F 14 0 92) then (if (F 14 0 92) = 0 then if r32 l4 then (if l4 ≤ 7 then f_M_meta_183 K l5 l4 l3 l2 l1 F B else (if l4 < 249 then f_M_meta_226 K l5 l4 l3 l2 l1 F B else f_M_meta_183 K l5 l4 l3 l2 l1 F B)) else none else f_M_meta_226 K l5 l4 l3 l2 l1 F B) else none) else none else f_M_meta_226 K l5 l4 l3 l2 l1 F B) else none) = some (r, F9, B9) := hf
  refine lv_iload_n hx hb (D_27 W_prog_15_method_148_code_128 22 rfl rfl) rfl (lv_at hl 4 rfl) ?_
  refine lv_bipush (v := iI 89) hx hb (D_16 W_prog_15_method_148_code_128 23 rfl rfl rfl) (by decide) ?_
  obtain ⟨g35, hf⟩ := gif hf
  refine zne (tgt := 226) hx hb g35 (by decide) (D_160 W_prog_15_method_148_code_128 25 rfl rfl rfl) (by decide) (fun h36 => ?_) (fun h36 => ?_)
  · replace hf := gneg hf h36
    exact b_M_meta_226 X hf hZ hS (lv_sub hl [0, 1, 2, 3, 4, 5] rfl)
  · replace hf := gpos hf h36
    refine lv_iload_n hx hb (D_28 W_prog_15_method_148_code_128 28 rfl rfl) rfl (lv_at hl 3 rfl) ?_
    refine lv_iconst (v := iI 2) hx hb (D_5 W_prog_15_method_148_code_128 29 rfl rfl) rfl ?_
    obtain ⟨g37, hf⟩ := gif hf
    refine zlt (tgt := 226) hx hb g37 (by decide) (D_161 W_prog_15_method_148_code_128 30 rfl rfl rfl) (by decide) (fun h38 => ?_) (fun h38 => ?_)
    · replace hf := gpos hf h38
      exact b_M_meta_226 X hf hZ hS (lv_sub hl [0, 1, 2, 3, 4, 5] rfl)
    · replace hf := gneg hf h38
      refine lv_aload_n hx hb (D_42 W_prog_15_method_148_code_160 1 rfl rfl) rfl (lv_at hl 5 rfl) ?_
      refine zget (ci := 14) (C := RX14) (T := TX14) (v := .int (iI (F 14 0 92))) (k := 92) hx hb hts inW_14 hown hK hZ (by decide) (by decide) rfl (by decide) k_11_90 rfl (D_180 W_prog_15_method_148_code_160 2 rfl rfl rfl) ?_
      obtain ⟨g39, hf⟩ := gif hf
      refine z0ne (tgt := 226) hx hb g39 (D_154 W_prog_15_method_148_code_160 5 rfl rfl rfl) (by decide) (fun h40 => ?_) (fun h40 => ?_)
      · replace hf := gneg hf h40
        exact b_M_meta_226 X hf hZ hS (lv_sub hl [0, 1, 2, 3, 4, 5] rfl)
      · replace hf := gpos hf h40
        refine lv_iload hx hb (D_21 W_prog_15_method_148_code_160 8 rfl rfl) (lv_at hl 1 rfl) ?_
        refine lv_bipush (v := iI 7) hx hb (D_16 W_prog_15_method_148_code_160 10 rfl rfl rfl) (by decide) ?_
        obtain ⟨g41, hf⟩ := gif hf
        refine zle (tgt := 183) hx hb g41 (by decide) (D_164 W_prog_15_method_148_code_160 12 rfl rfl rfl) (by decide) (fun h42 => ?_) (fun h42 => ?_)
        · replace hf := gpos hf h42
          exact b_M_meta_183 X hf hZ hS (lv_sub hl [0, 1, 2, 3, 4, 5] rfl)
        · replace hf := gneg hf h42
          refine lv_iload hx hb (D_21 W_prog_15_method_148_code_160 15 rfl rfl) (lv_at hl 1 rfl) ?_
          refine lv_sipush (v := iI 249) hx hb (D_17 W_prog_15_method_148_code_160 17 rfl rfl rfl) (by decide) ?_
          refine zlt (tgt := 226) hx hb g41 (by decide) (D_161 W_prog_15_method_148_code_160 20 rfl rfl rfl) (by decide) (fun h43 => ?_) (fun h43 => ?_)
          · replace hf := gpos hf h43
            exact b_M_meta_226 X hf hZ hS (lv_sub hl [0, 1, 2, 3, 4, 5] rfl)
          · replace hf := gneg hf h43
            exact b_M_meta_183 X hf hZ hS (lv_sub hl [0, 1, 2, 3, 4, 5] rfl)

def f_M_meta_82 (K : Nat) (l4 : Int) (l3 : Int) (l2 : Int) (l1 : Int) (s0 : Int) (F : zF) (B : zB) : zO := if r32 l1 then (if l1 = 88 then if r32 l2 then (if l2 < 4 then f_M_meta_150 K s0 l4 l3 l2 l1 F B else if r32 (F 14 0 91) then (if (F 14 0 91) = 0 then if r32 l4 then (if l4 < 1 then f_M_meta_150 K s0 l4 l3 l2 l1 F B else (if 12 < l4 then f_M_meta_150 K s0 l4 l3 l2 l1 F B else if r32 s0 then (if s0 < 1 then f_M_meta_150 K s0 l4 l3 l2 l1 F B else (if 4 < s0 then f_M_meta_150 K s0 l4 l3 l2 l1 F B else f_M_meta_150 K s0 l4 l3 l2 l1 (zup3 F 14 0 91 1) (zup4 (zup4 B 14 0 74 4 l4) 14 0 74 5 (zshl 1 s0)))) else none)) else none else f_M_meta_150 K s0 l4 l3 l2 l1 F B) else none) else none else f_M_meta_150 K s0 l4 l3 l2 l1 F B) else none
set_option maxHeartbeats 4000000 in
set_option maxRecDepth 100000 in
theorem b_M_meta_82 {D : va_G} {ca : Nat → ClassId} {ad : Nat → Int → Nat → Nat} {L : List Nat} {aS vS : Nat → Nat} {A : Nat → Prop} {p : Program} {l : Launch} {e : Env} {s : State} {m : MethodId} {args : Array Value} {below : List Frame} {meth : Method} {c : Code} {K : Nat} {r : Int} {F9 : zF} {B9 : zB} (X : zX D ca L aS vS A p s m args meth c prog_15_method_148_code 8 (Option.some Jvm.ClassFile.FieldType.boolean) "StaveHouseModel") {l4 : Int} {l3 : Int} {l2 : Int} {l1 : Int} {s0 : Int} {F : zF} {B : zB} {H : Heap} {locs : List Loc} {ls : Array Slot} (hf : f_M_meta_82 K l4 l3 l2 l1 s0 F B = some (r, F9, B9)) (hZ : zH D ca ad lnM nM L F B A H) (hS : va_S A s.heap H locs) (hl : lv_has ls 8 [(4, .int (iI l4)), (3, .int (iI l3)), (2, .int (iI l2)), (1, .int (iI l1)), (0, .ref (ad 14 0 0))]) : W p l e ({ frames := 3, cells := 0, slots := 0, locals := 65 } : Room) s m args below meth c H locs 0 0 (MQ below (Q_M_meta D ca ad L r F9 B9 A) args s 0 0 A) (F0 m 82 ls [.int (iI s0)]) := by
  obtain ⟨hx, hb, hr, hml, hown, hts, hlk, hK, hA, hL, hX⟩ := id X
  replace hf : (if r32 l1 then (if l1 = 88 then if r32 l2 then (if l2 < 4 then f_M_meta_150 K s0 l4 l3 l2 l1 F B else if r32 (F 14 0 91) then (if (F 14 0 91) = 0 then if r32 l4 then (if l4 < 1 then f_M_meta_150 K s0 l4 l3 l2 l1 F B else (if 12 < l4 then f_M_meta_150 K s0 l4 l3 l2 l1 F B else if r32 s0 then (if s0 < 1 then f_M_meta_150 K s0 l4 l3 l2 l1 F B else (if 4 < s0 then f_M_meta_150 K s0 l4 l3 l2 l1 F B else f_M_meta_150 K s0 l4 l3 l2 l1 (zup3 F 14 0 91 1) (zup4 (zup4 B 14 0 74 4 l4) 14 0 74 5 (zshl 1 s0)))) else none)) else none else f_M_meta_150 K s0 l4 l3 l2 l1 F B) else none) else none else f_M_meta_150 K s0 l4 l3 l2 l1 F B) else none) = some (r, F9, B9) := hf
  refine lv_istore (lv' := [(5, .int (iI s0)), (4, .int (iI l4)), (3, .int (iI l3)), (2, .int (iI l2)), (1, .int (iI l1)), (0, .ref (ad 14 0 0))]) hx hb (D_54 W_prog_15_method_148_code_64 18 rfl rfl) hl (by decide) rfl (fun ls hl => ?_)
  refine lv_iload_n hx hb (D_27 W_prog_15_method_148_code_64 20 rfl rfl) rfl (lv_at hl 4 rfl) ?_
  refine lv_bipush (v := iI 88) hx hb (D_16 W_prog_15_method_148_code_64 21 rfl rfl rfl) (by decide) ?_
  obtain ⟨g19, hf⟩ := gif hf
  refine zne (tgt := 150) hx hb g19 (by decide) (D_160 W_prog_15_method_148_code_64 23 rfl rfl rfl) (by decide) (fun h20 => ?_) (fun h20 => ?_)
  · replace hf := gneg hf h20
    exact b_M_meta_150 X hf hZ hS (lv_sub hl [0, 1, 2, 3, 4, 5] rfl)
  · replace hf := gpos hf h20
    refine lv_iload_n hx hb (D_28 W_prog_15_method_148_code_64 26 rfl rfl) rfl (lv_at hl 3 rfl) ?_
    refine lv_iconst (v := iI 4) hx hb (D_7 W_prog_15_method_148_code_64 27 rfl rfl) rfl ?_
    obtain ⟨g21, hf⟩ := gif hf
    refine zlt (tgt := 150) hx hb g21 (by decide) (D_161 W_prog_15_method_148_code_64 28 rfl rfl rfl) (by decide) (fun h22 => ?_) (fun h22 => ?_)
    · replace hf := gpos hf h22
      exact b_M_meta_150 X hf hZ hS (lv_sub hl [0, 1, 2, 3, 4, 5] rfl)
    · replace hf := gneg hf h22
      refine lv_aload_n hx hb (D_42 W_prog_15_method_148_code_64 31 rfl rfl) rfl (lv_at hl 5 rfl) ?_
      refine zget (ci := 14) (C := RX14) (T := TX14) (v := .int (iI (F 14 0 91))) (k := 91) hx hb hts inW_14 hown hK hZ (by decide) (by decide) rfl (by decide) k_11_89 rfl (D_180 W_prog_15_method_148_code_96 0 rfl rfl rfl) ?_
      obtain ⟨g23, hf⟩ := gif hf
      refine z0ne (tgt := 150) hx hb g23 (D_154 W_prog_15_method_148_code_96 3 rfl rfl rfl) (by decide) (fun h24 => ?_) (fun h24 => ?_)
      · replace hf := gneg hf h24
        exact b_M_meta_150 X hf hZ hS (lv_sub hl [0, 1, 2, 3, 4, 5] rfl)
      · replace hf := gpos hf h24
        refine lv_iload hx hb (D_21 W_prog_15_method_148_code_96 6 rfl rfl) (lv_at hl 1 rfl) ?_
        refine lv_iconst (v := iI 1) hx hb (D_4 W_prog_15_method_148_code_96 8 rfl rfl) rfl ?_
        obtain ⟨g25, hf⟩ := gif hf
        refine zlt (tgt := 150) hx hb g25 (by decide) (D_161 W_prog_15_method_148_code_96 9 rfl rfl rfl) (by decide) (fun h26 => ?_) (fun h26 => ?_)
        · replace hf := gpos hf h26
          exact b_M_meta_150 X hf hZ hS (lv_sub hl [0, 1, 2, 3, 4, 5] rfl)
        · replace hf := gneg hf h26
          refine lv_iload hx hb (D_21 W_prog_15_method_148_code_96 12 rfl rfl) (lv_at hl 1 rfl) ?_
          refine lv_bipush (v := iI 12) hx hb (D_16 W_prog_15_method_148_code_96 14 rfl rfl rfl) (by decide) ?_
          refine zgt (tgt := 150) hx hb g25 (by decide) (D_163 W_prog_15_method_148_code_96 16 rfl rfl rfl) (by decide) (fun h27 => ?_) (fun h27 => ?_)
          · replace hf := gpos hf h27
            exact b_M_meta_150 X hf hZ hS (lv_sub hl [0, 1, 2, 3, 4, 5] rfl)
          · replace hf := gneg hf h27
            refine lv_iload hx hb (D_21 W_prog_15_method_148_code_96 19 rfl rfl) (lv_at hl 0 rfl) ?_
            refine lv_iconst (v := iI 1) hx hb (D_4 W_prog_15_method_148_code_96 21 rfl rfl) rfl ?_
            obtain ⟨g28, hf⟩ := gif hf
            refine zlt (tgt := 150) hx hb g28 (by decide) (D_161 W_prog_15_method_148_code_96 22 rfl rfl rfl) (by decide) (fun h29 => ?_) (fun h29 => ?_)
            · replace hf := gpos hf h29
              exact b_M_meta_150 X hf hZ hS (lv_sub hl [0, 1, 2, 3, 4, 5] rfl)
            · replace hf := gneg hf h29
              refine lv_iload hx hb (D_21 W_prog_15_method_148_code_96 25 rfl rfl) (lv_at hl 0 rfl) ?_
              refine lv_iconst (v := iI 4) hx hb (D_7 W_prog_15_method_148_code_96 27 rfl rfl) rfl ?_
              refine zgt (tgt := 150) hx hb g28 (by decide) (D_163 W_prog_15_method_148_code_96 28 rfl rfl rfl) (by decide) (fun h30 => ?_) (fun h30 => ?_)
              · replace hf := gpos hf h30
                exact b_M_meta_150 X hf hZ hS (lv_sub hl [0, 1, 2, 3, 4, 5] rfl)
              · replace hf := gneg hf h30
                refine lv_aload_n hx hb (D_42 W_prog_15_method_148_code_96 31 rfl rfl) rfl (lv_at hl 5 rfl) ?_
                refine lv_iconst (v := iI 1) hx hb (D_4 W_prog_15_method_148_code_128 0 rfl rfl) rfl ?_
                refine zput (ci := 14) (C := RX14) (T := TX14) (k := 91) (v := 1) (w := .int (iI 1)) hx hb hts inW_14 tyX14 tyX14_ok nmX14 hown hK hZ hS (by decide) (by decide) rfl (by decide) k_11_89 rfl (fun G h => congrArg (fun q => Value.int (iI q)) h) rfl rfl (zno (by decide)) (D_181 W_prog_15_method_148_code_128 1 rfl rfl rfl) (fun H31 locs31 hZ31 hS31 => ?_)
                refine lv_aload_n hx hb (D_42 W_prog_15_method_148_code_128 4 rfl rfl) rfl (lv_at hl 5 rfl) ?_
                refine zget (ci := 14) (C := RX14) (T := TX14) (v := .ref (ad 14 0 (74 + 1))) (k := 74) hx hb hts inW_14 hown hK hZ31 (by decide) (by decide) rfl (by decide) k_11_72 rfl (D_180 W_prog_15_method_148_code_128 5 rfl rfl rfl) ?_
                refine lv_iconst (v := iI 4) hx hb (D_7 W_prog_15_method_148_code_128 8 rfl rfl) rfl ?_
                refine lv_iload hx hb (D_21 W_prog_15_method_148_code_128 9 rfl rfl) (lv_at hl 1 rfl) ?_
                refine zast (ci := 14) (k := 74) hx hb hK rfl hZ31 hS31 (by decide) (by decide) rfl (Nat.le_of_ble_eq_true rfl) (by decide) (by decide) (D_79 W_prog_15_method_148_code_128 11 rfl rfl) (fun H33 locs33 hZ33 hS33 => ?_)
                refine lv_aload_n hx hb (D_42 W_prog_15_method_148_code_128 12 rfl rfl) rfl (lv_at hl 5 rfl) ?_
                refine zget (ci := 14) (C := RX14) (T := TX14) (v := .ref (ad 14 0 (74 + 1))) (k := 74) hx hb hts inW_14 hown hK hZ33 (by decide) (by decide) rfl (by decide) k_11_72 rfl (D_180 W_prog_15_method_148_code_128 13 rfl rfl rfl) ?_
                refine lv_iconst (v := iI 5) hx hb (D_8 W_prog_15_method_148_code_128 16 rfl rfl) rfl ?_
                refine lv_iconst (v := iI 1) hx hb (D_4 W_prog_15_method_148_code_128 17 rfl rfl) rfl ?_
                refine lv_iload hx hb (D_21 W_prog_15_method_148_code_128 18 rfl rfl) (lv_at hl 0 rfl) ?_
                refine zshl_r hx hb (D_120 W_prog_15_method_148_code_128 20 rfl rfl) ?_
                refine zast (ci := 14) (k := 74) hx hb hK rfl hZ33 hS33 (by decide) (by decide) rfl (Nat.le_of_ble_eq_true rfl) (by decide) (by decide) (D_79 W_prog_15_method_148_code_128 21 rfl rfl) (fun H34 locs34 hZ34 hS34 => ?_)
                exact b_M_meta_150 X hf hZ34 hS34 (lv_sub hl [0, 1, 2, 3, 4, 5] rfl)

def f_M_meta_64 (K : Nat) (l3 : Int) (l2 : Int) (l1 : Int) (s0 : Int) (F : zF) (B : zB) : zO := if r32 l2 then (if l2 ≤ 1 then f_M_meta_82 K s0 l3 l2 l1 0 F B else zbind (f_M_byteAt K (l3 + 1) F B) (fun r18 F18 B18 => f_M_meta_82 K s0 l3 l2 l1 r18 F18 B18)) else none
set_option maxHeartbeats 4000000 in
set_option maxRecDepth 100000 in
theorem b_M_meta_64 {D : va_G} {ca : Nat → ClassId} {ad : Nat → Int → Nat → Nat} {L : List Nat} {aS vS : Nat → Nat} {A : Nat → Prop} {p : Program} {l : Launch} {e : Env} {s : State} {m : MethodId} {args : Array Value} {below : List Frame} {meth : Method} {c : Code} {K : Nat} {r : Int} {F9 : zF} {B9 : zB} (X : zX D ca L aS vS A p s m args meth c prog_15_method_148_code 8 (Option.some Jvm.ClassFile.FieldType.boolean) "StaveHouseModel") {l3 : Int} {l2 : Int} {l1 : Int} {s0 : Int} {F : zF} {B : zB} {H : Heap} {locs : List Loc} {ls : Array Slot} (hf : f_M_meta_64 K l3 l2 l1 s0 F B = some (r, F9, B9)) (hZ : zH D ca ad lnM nM L F B A H) (hS : va_S A s.heap H locs) (hl : lv_has ls 8 [(3, .int (iI l3)), (2, .int (iI l2)), (1, .int (iI l1)), (0, .ref (ad 14 0 0))]) : W p l e ({ frames := 3, cells := 0, slots := 0, locals := 65 } : Room) s m args below meth c H locs 0 0 (MQ below (Q_M_meta D ca ad L r F9 B9 A) args s 0 0 A) (F0 m 64 ls [.int (iI s0)]) := by
  obtain ⟨hx, hb, hr, hml, hown, hts, hlk, hK, hA, hL, hX⟩ := id X
  replace hf : (if r32 l2 then (if l2 ≤ 1 then f_M_meta_82 K s0 l3 l2 l1 0 F B else zbind (f_M_byteAt K (l3 + 1) F B) (fun r18 F18 B18 => f_M_meta_82 K s0 l3 l2 l1 r18 F18 B18)) else none) = some (r, F9, B9) := hf
  refine lv_istore (lv' := [(4, .int (iI s0)), (3, .int (iI l3)), (2, .int (iI l2)), (1, .int (iI l1)), (0, .ref (ad 14 0 0))]) hx hb (D_54 W_prog_15_method_148_code_64 0 rfl rfl) hl (by decide) rfl (fun ls hl => ?_)
  refine lv_iload_n hx hb (D_28 W_prog_15_method_148_code_64 2 rfl rfl) rfl (lv_at hl 2 rfl) ?_
  refine lv_iconst (v := iI 1) hx hb (D_4 W_prog_15_method_148_code_64 3 rfl rfl) rfl ?_
  obtain ⟨g16, hf⟩ := gif hf
  refine zle (tgt := 81) hx hb g16 (by decide) (D_164 W_prog_15_method_148_code_64 4 rfl rfl rfl) (by decide) (fun h17 => ?_) (fun h17 => ?_)
  · replace hf := gpos hf h17
    refine lv_iconst (v := iI 0) hx hb (D_3 W_prog_15_method_148_code_64 17 rfl rfl) rfl ?_
    exact b_M_meta_82 X hf hZ hS (lv_sub hl [0, 1, 2, 3, 4] rfl)
  · replace hf := gneg hf h17
    refine lv_aload_n hx hb (D_42 W_prog_15_method_148_code_64 7 rfl rfl) rfl (lv_at hl 4 rfl) ?_
    refine lv_iload_n hx hb (D_29 W_prog_15_method_148_code_64 8 rfl rfl) rfl (lv_at hl 1 rfl) ?_
    refine lv_iconst (v := iI 1) hx hb (D_4 W_prog_15_method_148_code_64 9 rfl rfl) rfl ?_
    refine zadd hx hb (D_96 W_prog_15_method_148_code_64 10 rfl rfl) ?_
    obtain ⟨r18, F18, B18, hc18, hf⟩ := gbind hf
    refine va_calli (va_runV (As := [.int (iI (l3 + 1))]) (rest := []) ⟨hx, hb, hml, hown, hts⟩ (c_M_byteAt (l := l) hc18) (cwV 1 hts (gdV k_13_23 k_13_25 ks_154 k_1_9 k_13_26) rfl rfl rfl (by decide +kernel) ⟨Nat.le_of_ble_eq_true rfl, Nat.le_of_ble_eq_true rfl⟩) (zPV X hZ hS (ci := 14) (by decide) (by decide) (r := (RX14, TX14, 107)) rfl [.int (iI (l3 + 1))]) rfl rfl hl.1 rfl (lv_room (Nat.le_of_ble_eq_true rfl)) (D_182 W_prog_15_method_148_code_64 11 rfl rfl rfl) ⟨Nat.le_of_ble_eq_true rfl, Nat.le_of_ble_eq_true rfl⟩) hS (fun q _ h => zAin X hS q h) (zAin X hS) (fun p18 u18 t18 H18 locs18 ht18 hv18 hw18 hB18 hz18 hk18 hS18 => ?_)
    have hZ18 := zBack X ht18 hB18
    subst hw18
    refine lv_goto (tgt := 82) hx hb (D_167 W_prog_15_method_148_code_64 14 rfl rfl rfl) (by decide) ?_
    exact b_M_meta_82 X hf hZ18 hS18 (lv_sub hl [0, 1, 2, 3, 4] rfl)

def f_M_meta_42 (K : Nat) (l3 : Int) (l2 : Int) (l1 : Int) (F : zF) (B : zB) : zO := zbind (f_M_good K F B) (fun r10 F10 B10 => if r32 r10 then (if r10 = 0 then some (0, F10, B10) else if r32 l2 then (if l2 ≤ 0 then f_M_meta_64 K l3 l2 l1 0 F10 B10 else zbind (f_M_byteAt K l3 F10 B10) (fun r15 F15 B15 => f_M_meta_64 K l3 l2 l1 r15 F15 B15)) else none) else none)
set_option maxHeartbeats 4000000 in
set_option maxRecDepth 100000 in
theorem b_M_meta_42 {D : va_G} {ca : Nat → ClassId} {ad : Nat → Int → Nat → Nat} {L : List Nat} {aS vS : Nat → Nat} {A : Nat → Prop} {p : Program} {l : Launch} {e : Env} {s : State} {m : MethodId} {args : Array Value} {below : List Frame} {meth : Method} {c : Code} {K : Nat} {r : Int} {F9 : zF} {B9 : zB} (X : zX D ca L aS vS A p s m args meth c prog_15_method_148_code 8 (Option.some Jvm.ClassFile.FieldType.boolean) "StaveHouseModel") {l3 : Int} {l2 : Int} {l1 : Int} {F : zF} {B : zB} {H : Heap} {locs : List Loc} {ls : Array Slot} (hf : f_M_meta_42 K l3 l2 l1 F B = some (r, F9, B9)) (hZ : zH D ca ad lnM nM L F B A H) (hS : va_S A s.heap H locs) (hl : lv_has ls 8 [(3, .int (iI l3)), (2, .int (iI l2)), (1, .int (iI l1)), (0, .ref (ad 14 0 0))]) : W p l e ({ frames := 3, cells := 0, slots := 0, locals := 65 } : Room) s m args below meth c H locs 0 0 (MQ below (Q_M_meta D ca ad L r F9 B9 A) args s 0 0 A) (F0 m 42 ls []) := by
  obtain ⟨hx, hb, hr, hml, hown, hts, hlk, hK, hA, hL, hX⟩ := id X
  replace hf : (zbind (f_M_good K F B) (fun r10 F10 B10 => if r32 r10 then (if r10 = 0 then some (0, F10, B10) else if r32 l2 then (if l2 ≤ 0 then f_M_meta_64 K l3 l2 l1 0 F10 B10 else zbind (f_M_byteAt K l3 F10 B10) (fun r15 F15 B15 => f_M_meta_64 K l3 l2 l1 r15 F15 B15)) else none) else none)) = some (r, F9, B9) := hf
  refine lv_aload_n hx hb (D_42 W_prog_15_method_148_code_32 10 rfl rfl) rfl (lv_at hl 3 rfl) ?_
  obtain ⟨r10, F10, B10, hc10, hf⟩ := gbind hf
  refine va_calli (va_runV (As := []) (rest := []) ⟨hx, hb, hml, hown, hts⟩ (c_M_good (l := l) hc10) (cwV 0 hts (gdV k_13_15 k_13_17 ks_152 k_1_9 k_13_18) rfl rfl rfl (by decide +kernel) ⟨Nat.le_of_ble_eq_true rfl, Nat.le_of_ble_eq_true rfl⟩) (zPV X hZ hS (ci := 14) (by decide) (by decide) (r := (RX14, TX14, 107)) rfl []) rfl rfl hl.1 rfl (lv_room (Nat.le_of_ble_eq_true rfl)) (D_182 W_prog_15_method_148_code_32 11 rfl rfl rfl) ⟨Nat.le_of_ble_eq_true rfl, Nat.le_of_ble_eq_true rfl⟩) hS (fun q _ h => zAin X hS q h) (zAin X hS) (fun p10 u10 t10 H10 locs10 ht10 hv10 hw10 hB10 hz10 hk10 hS10 => ?_)
  have hZ10 := zBack X ht10 hB10
  subst hw10
  obtain ⟨g11, hf⟩ := gif hf
  refine z0ne (tgt := 51) hx hb g11 (D_154 W_prog_15_method_148_code_32 14 rfl rfl rfl) (by decide) (fun h12 => ?_) (fun h12 => ?_)
  · replace hf := gneg hf h12
    refine lv_iload_n hx hb (D_28 W_prog_15_method_148_code_32 19 rfl rfl) rfl (lv_at hl 1 rfl) ?_
    obtain ⟨g13, hf⟩ := gif hf
    refine z0le (tgt := 63) hx hb g13 (D_158 W_prog_15_method_148_code_32 20 rfl rfl rfl) (by decide) (fun h14 => ?_) (fun h14 => ?_)
    · replace hf := gpos hf h14
      refine lv_iconst (v := iI 0) hx hb (D_3 W_prog_15_method_148_code_32 31 rfl rfl) rfl ?_
      exact b_M_meta_64 X hf hZ10 hS10 (lv_sub hl [0, 1, 2, 3] rfl)
    · replace hf := gneg hf h14
      refine lv_aload_n hx hb (D_42 W_prog_15_method_148_code_32 23 rfl rfl) rfl (lv_at hl 3 rfl) ?_
      refine lv_iload_n hx hb (D_29 W_prog_15_method_148_code_32 24 rfl rfl) rfl (lv_at hl 0 rfl) ?_
      obtain ⟨r15, F15, B15, hc15, hf⟩ := gbind hf
      refine va_calli (va_runV (As := [.int (iI l3)]) (rest := []) ⟨hx, hb, hml, hown, hts⟩ (c_M_byteAt (l := l) hc15) (cwV 1 hts (gdV k_13_23 k_13_25 ks_154 k_1_9 k_13_26) rfl rfl rfl (by decide +kernel) ⟨Nat.le_of_ble_eq_true rfl, Nat.le_of_ble_eq_true rfl⟩) (zPV X hZ10 hS10 (ci := 14) (by decide) (by decide) (r := (RX14, TX14, 107)) rfl [.int (iI l3)]) rfl rfl hl.1 rfl (lv_room (Nat.le_of_ble_eq_true rfl)) (D_182 W_prog_15_method_148_code_32 25 rfl rfl rfl) ⟨Nat.le_of_ble_eq_true rfl, Nat.le_of_ble_eq_true rfl⟩) hS10 (fun q _ h => zAin X hS10 q h) (zAin X hS10) (fun p15 u15 t15 H15 locs15 ht15 hv15 hw15 hB15 hz15 hk15 hS15 => ?_)
      have hZ15 := zBack X ht15 hB15
      subst hw15
      refine lv_goto (tgt := 64) hx hb (D_167 W_prog_15_method_148_code_32 28 rfl rfl rfl) (by decide) ?_
      exact b_M_meta_64 X hf hZ15 hS15 (lv_sub hl [0, 1, 2, 3] rfl)
  · replace hf := gpos hf h12
    refine lv_iconst (v := iI 0) hx hb (D_3 W_prog_15_method_148_code_32 17 rfl rfl) rfl ?_
    cases hf
    exact W.zret hx hb hr rfl (fun t ht hW => ⟨⟨_, (), rfl, rfl, by rw [ht]; exact hZ10, va_K.moved hW.alike hK⟩, hS10.F ht⟩) hS10.2.2 (D_172 W_prog_15_method_148_code_32 18 rfl rfl) hlk

def f_M_meta_18 (K : Nat) : Nat → Int → Int → Int → Int → zF → zB → zO
  | 0, _, _, _, _, _, _ => none
  | n + 1, l4, l3, l2, l1, F, B => if r32 l4 then if r32 l2 then (if l2 ≤ l4 then f_M_meta_42 K l3 l2 l1 F B else zbind (f_M_good K F B) (fun r6 F6 B6 => if r32 r6 then (if r6 = 0 then f_M_meta_42 K l3 l2 l1 F6 B6 else zbind (f_M_next K F6 B6) (fun r9 F9 B9 => f_M_meta_18 K n (l4 + 1) l3 l2 l1 F9 B9)) else none)) else none else none
set_option maxHeartbeats 4000000 in
set_option maxRecDepth 100000 in
theorem b_M_meta_18 {D : va_G} {ca : Nat → ClassId} {ad : Nat → Int → Nat → Nat} {L : List Nat} {aS vS : Nat → Nat} {A : Nat → Prop} {p : Program} {l : Launch} {e : Env} {s : State} {m : MethodId} {args : Array Value} {below : List Frame} {meth : Method} {c : Code} {K : Nat} {r : Int} {F9 : zF} {B9 : zB} (X : zX D ca L aS vS A p s m args meth c prog_15_method_148_code 8 (Option.some Jvm.ClassFile.FieldType.boolean) "StaveHouseModel") : ∀ {n : Nat} {l4 : Int} {l3 : Int} {l2 : Int} {l1 : Int} {F : zF} {B : zB} {H : Heap} {locs : List Loc} {ls : Array Slot}, f_M_meta_18 K n l4 l3 l2 l1 F B = some (r, F9, B9) → zH D ca ad lnM nM L F B A H → va_S A s.heap H locs → lv_has ls 8 [(4, .int (iI l4)), (3, .int (iI l3)), (2, .int (iI l2)), (1, .int (iI l1)), (0, .ref (ad 14 0 0))] → W p l e ({ frames := 3, cells := 0, slots := 0, locals := 65 } : Room) s m args below meth c H locs 0 0 (MQ below (Q_M_meta D ca ad L r F9 B9 A) args s 0 0 A) (F0 m 18 ls []) := by
  obtain ⟨hx, hb, hr, hml, hown, hts, hlk, hK, hA, hL, hX⟩ := id X
  intro n
  induction n with
  | zero =>
    intros
    rename_i hf _ _ _
    cases hf
  | succ n ih =>
    intro l4 l3 l2 l1 F B H locs ls hf hZ hS hl
    replace hf : (if r32 l4 then if r32 l2 then (if l2 ≤ l4 then f_M_meta_42 K l3 l2 l1 F B else zbind (f_M_good K F B) (fun r6 F6 B6 => if r32 r6 then (if r6 = 0 then f_M_meta_42 K l3 l2 l1 F6 B6 else zbind (f_M_next K F6 B6) (fun r9 F9 B9 => f_M_meta_18 K n (l4 + 1) l3 l2 l1 F9 B9)) else none)) else none else none) = some (r, F9, B9) := hf
    refine lv_iload hx hb (D_21 W_prog_15_method_148_code_0 18 rfl rfl) (lv_at hl 0 rfl) ?_
    refine lv_iload_n hx hb (D_28 W_prog_15_method_148_code_0 20 rfl rfl) rfl (lv_at hl 2 rfl) ?_
    obtain ⟨g3, hf⟩ := gif hf
    obtain ⟨g4, hf⟩ := gif hf
    refine zge (tgt := 42) hx hb g3 g4 (D_162 W_prog_15_method_148_code_0 21 rfl rfl rfl) (by decide) (fun h5 => ?_) (fun h5 => ?_)
    · replace hf := gpos hf h5
      exact b_M_meta_42 X hf hZ hS (lv_sub hl [1, 2, 3, 4] rfl)
    · replace hf := gneg hf h5
      refine lv_aload_n hx hb (D_42 W_prog_15_method_148_code_0 24 rfl rfl) rfl (lv_at hl 4 rfl) ?_
      obtain ⟨r6, F6, B6, hc6, hf⟩ := gbind hf
      refine va_calli (va_runV (As := []) (rest := []) ⟨hx, hb, hml, hown, hts⟩ (c_M_good (l := l) hc6) (cwV 0 hts (gdV k_13_15 k_13_17 ks_152 k_1_9 k_13_18) rfl rfl rfl (by decide +kernel) ⟨Nat.le_of_ble_eq_true rfl, Nat.le_of_ble_eq_true rfl⟩) (zPV X hZ hS (ci := 14) (by decide) (by decide) (r := (RX14, TX14, 107)) rfl []) rfl rfl hl.1 rfl (lv_room (Nat.le_of_ble_eq_true rfl)) (D_182 W_prog_15_method_148_code_0 25 rfl rfl rfl) ⟨Nat.le_of_ble_eq_true rfl, Nat.le_of_ble_eq_true rfl⟩) hS (fun q _ h => zAin X hS q h) (zAin X hS) (fun p6 u6 t6 H6 locs6 ht6 hv6 hw6 hB6 hz6 hk6 hS6 => ?_)
      have hZ6 := zBack X ht6 hB6
      subst hw6
      obtain ⟨g7, hf⟩ := gif hf
      refine z0eq (tgt := 42) hx hb g7 (D_153 W_prog_15_method_148_code_0 28 rfl rfl rfl) (by decide) (fun h8 => ?_) (fun h8 => ?_)
      · replace hf := gpos hf h8
        exact b_M_meta_42 X hf hZ6 hS6 (lv_sub hl [1, 2, 3, 4] rfl)
      · replace hf := gneg hf h8
        refine lv_aload_n hx hb (D_42 W_prog_15_method_148_code_0 31 rfl rfl) rfl (lv_at hl 4 rfl) ?_
        obtain ⟨r9, F9, B9, hc9, hf⟩ := gbind hf
        refine va_calli (va_runV (As := []) (rest := []) ⟨hx, hb, hml, hown, hts⟩ (c_M_next (l := l) hc9) (cwV 0 hts (gdV k_13_11 k_13_13 ks_151 k_1_9 k_13_14) rfl rfl rfl (by decide +kernel) ⟨Nat.le_of_ble_eq_true rfl, Nat.le_of_ble_eq_true rfl⟩) (zPV X hZ6 hS6 (ci := 14) (by decide) (by decide) (r := (RX14, TX14, 107)) rfl []) rfl rfl hl.1 rfl (lv_room (Nat.le_of_ble_eq_true rfl)) (D_182 W_prog_15_method_148_code_32 0 rfl rfl rfl) ⟨Nat.le_of_ble_eq_true rfl, Nat.le_of_ble_eq_true rfl⟩) hS6 (fun q _ h => zAin X hS6 q h) (zAin X hS6) (fun p9 u9 t9 H9 locs9 ht9 hv9 hw9 hB9 hz9 hk9 hS9 => ?_)
        have hZ9 := zBack X ht9 hB9
        subst hw9
        refine lv_pop hx hb (D_87 W_prog_15_method_148_code_32 3 rfl rfl) rfl ?_
        refine lv_iinc (v := iI (l4 + 1)) (lv' := [(4, .int (iI (l4 + 1))), (3, .int (iI l3)), (2, .int (iI l2)), (1, .int (iI l1)), (0, .ref (ad 14 0 0))]) hx hb d_15_148_36 hl (k := 0) rfl (iI_add _ 1) (by decide) rfl (fun ls hl => ?_)
        refine lv_goto (tgt := 18) hx hb (D_167 W_prog_15_method_148_code_32 7 rfl rfl rfl) (by decide) ?_
        exact ih hf hZ9 hS9 (lv_sub hl [0, 1, 2, 3, 4] rfl)

def f_M_meta (K : Nat)  (F : zF) (B : zB) : zO := zbind (f_M_below K F B) (fun r1 F1 B1 => zbind (f_M_seven K F1 B1) (fun r2 F2 B2 => f_M_meta_18 K K 0 (F2 14 0 89) r2 r1 F2 B2))
set_option maxHeartbeats 4000000 in
set_option maxRecDepth 100000 in
theorem c_M_meta {l : Launch} {D : va_G} {ca : Nat → ClassId} {ad : Nat → Int → Nat → Nat} {L : List Nat} {aS vS : Nat → Nat} {sz K : Nat}   {F F9 : zF} {B B9 : zB} {r : Int} (hf : f_M_meta K  F B = some (r, F9, B9)) : Met l ({ cls := "StaveHouseModel", name := "meta", desc := "()Z" } : Jvm.MethodName) (Cond.code ({ cls := "StaveHouseModel", name := "meta", desc := "()Z" } : Jvm.MethodName) prog_15_method_148_code 8 (Option.some Jvm.ClassFile.FieldType.boolean) :: wAll) ({ frames := 3, cells := 0, slots := 0, locals := 65 } : Room) (va_Pc [.ref (ad 14 0 0)] (zPre D ca ad lnM nM L aS vS F B sz)) (Q_M_meta D ca ad L r F9 B9 (zA L sz)) 0 0 (zA L sz) := by
  refine zMet (Qc := Q_M_meta D ca ad L r F9 B9) (lv := [(0, .ref (ad 14 0 0))]) (by decide) (Nat.le_of_ble_eq_true rfl) rfl (fun A p e s m below meth c ls X hZ hS hl => ?_)
  obtain ⟨hx, hb, hr, hml, hown, hts, hlk, hK, hA, hL, hX⟩ := id X
  replace hf : (zbind (f_M_below K F B) (fun r1 F1 B1 => zbind (f_M_seven K F1 B1) (fun r2 F2 B2 => f_M_meta_18 K K 0 (F2 14 0 89) r2 r1 F2 B2))) = some (r, F9, B9) := hf
  refine lv_aload_n hx hb (D_42 W_prog_15_method_148_code_0 0 rfl rfl) rfl (lv_at hl 0 rfl) ?_
  obtain ⟨r1, F1, B1, hc1, hf⟩ := gbind hf
  refine va_calli (va_runV (As := []) (rest := []) ⟨hx, hb, hml, hown, hts⟩ (c_M_below (l := l) hc1) (cwV 0 hts (gdV k_13_52 k_13_54 ks_161 k_1_9 k_13_55) rfl rfl rfl (by decide +kernel) ⟨Nat.le_of_ble_eq_true rfl, Nat.le_of_ble_eq_true rfl⟩) (zPV X hZ hS (ci := 14) (by decide) (by decide) (r := (RX14, TX14, 107)) rfl []) rfl rfl hl.1 rfl (lv_room (Nat.le_of_ble_eq_true rfl)) (D_182 W_prog_15_method_148_code_0 1 rfl rfl rfl) ⟨Nat.le_of_ble_eq_true rfl, Nat.le_of_ble_eq_true rfl⟩) hS (fun q _ h => zAin X hS q h) (zAin X hS) (fun p1 u1 t1 H1 locs1 ht1 hv1 hw1 hB1 hz1 hk1 hS1 => ?_)
  have hZ1 := zBack X ht1 hB1
  subst hw1
  refine lv_istore_n (lv' := [(1, .int (iI r1)), (0, .ref (ad 14 0 0))]) hx hb (D_60 W_prog_15_method_148_code_0 4 rfl rfl) rfl hl (by decide) rfl (fun ls hl => ?_)
  refine lv_aload_n hx hb (D_42 W_prog_15_method_148_code_0 5 rfl rfl) rfl (lv_at hl 1 rfl) ?_
  obtain ⟨r2, F2, B2, hc2, hf⟩ := gbind hf
  refine va_calli (va_runV (As := []) (rest := []) ⟨hx, hb, hml, hown, hts⟩ (c_M_seven (l := l) hc2) (cwV 0 hts (gdV k_13_44 k_13_46 ks_159 k_1_9 k_13_47) rfl rfl rfl (by decide +kernel) ⟨Nat.le_of_ble_eq_true rfl, Nat.le_of_ble_eq_true rfl⟩) (zPV X hZ1 hS1 (ci := 14) (by decide) (by decide) (r := (RX14, TX14, 107)) rfl []) rfl rfl hl.1 rfl (lv_room (Nat.le_of_ble_eq_true rfl)) (D_182 W_prog_15_method_148_code_0 6 rfl rfl rfl) ⟨Nat.le_of_ble_eq_true rfl, Nat.le_of_ble_eq_true rfl⟩) hS1 (fun q _ h => zAin X hS1 q h) (zAin X hS1) (fun p2 u2 t2 H2 locs2 ht2 hv2 hw2 hB2 hz2 hk2 hS2 => ?_)
  have hZ2 := zBack X ht2 hB2
  subst hw2
  refine lv_istore_n (lv' := [(2, .int (iI r2)), (1, .int (iI r1)), (0, .ref (ad 14 0 0))]) hx hb (D_61 W_prog_15_method_148_code_0 9 rfl rfl) rfl hl (by decide) rfl (fun ls hl => ?_)
  refine lv_aload_n hx hb (D_42 W_prog_15_method_148_code_0 10 rfl rfl) rfl (lv_at hl 2 rfl) ?_
  refine zget (ci := 14) (C := RX14) (T := TX14) (v := .int (iI (F2 14 0 89))) (k := 89) hx hb hts inW_14 hown hK hZ2 (by decide) (by decide) rfl (by decide) k_11_87 rfl (D_180 W_prog_15_method_148_code_0 11 rfl rfl rfl) ?_
  refine lv_istore_n (lv' := [(3, .int (iI (F2 14 0 89))), (2, .int (iI r2)), (1, .int (iI r1)), (0, .ref (ad 14 0 0))]) hx hb (D_62 W_prog_15_method_148_code_0 14 rfl rfl) rfl hl (by decide) rfl (fun ls hl => ?_)
  refine lv_iconst (v := iI 0) hx hb (D_3 W_prog_15_method_148_code_0 15 rfl rfl) rfl ?_
  refine lv_istore (lv' := [(4, .int (iI 0)), (3, .int (iI (F2 14 0 89))), (2, .int (iI r2)), (1, .int (iI r1)), (0, .ref (ad 14 0 0))]) hx hb (D_54 W_prog_15_method_148_code_0 16 rfl rfl) hl (by decide) rfl (fun ls hl => ?_)
  exact b_M_meta_18 X hf hZ2 hS2 (lv_sub hl [0, 1, 2, 3, 4] rfl)

abbrev Q_M_downEvent (D : va_G) (ca : Nat → ClassId) (ad : Nat → Int → Nat → Nat) (L : List Nat) (r : Int) (F : zF) (B : zB) (A : Nat → Prop) : Array Value → State → Outcome → State → Prop := va_Qv (S := Unit) (fun _ => True) (fun _ => zPo D ca ad lnM nM L F B A) A
def f_M_downEvent_102 (K : Nat) : Nat → Int → Int → Int → zF → zB → zO
  | 0, _, _, _, _, _ => none
  | n + 1, l7, l6, l5, F, B => if r32 l7 then if r32 l5 then (if l5 ≤ l7 then some (0, F, B) else if 0 ≤ l7 ∧ l7 < 6 then zbind (f_M_spell K l6 (B 14 0 95 l7) F B) (fun r17 F17 B17 => f_M_downEvent_102 K n (l7 + 1) l6 l5 F17 B17) else none) else none else none
set_option maxHeartbeats 4000000 in
set_option maxRecDepth 100000 in
theorem b_M_downEvent_102 {D : va_G} {ca : Nat → ClassId} {ad : Nat → Int → Nat → Nat} {L : List Nat} {aS vS : Nat → Nat} {A : Nat → Prop} {p : Program} {l : Launch} {e : Env} {s : State} {m : MethodId} {args : Array Value} {below : List Frame} {meth : Method} {c : Code} {K : Nat} {r : Int} {F9 : zF} {B9 : zB} (X : zX D ca L aS vS A p s m args meth c prog_15_method_156_code 8 (Option.none : Option Jvm.ClassFile.FieldType) "StaveHouseModel") : ∀ {n : Nat} {l7 : Int} {l6 : Int} {l5 : Int} {F : zF} {B : zB} {H : Heap} {locs : List Loc} {ls : Array Slot}, f_M_downEvent_102 K n l7 l6 l5 F B = some (r, F9, B9) → zH D ca ad lnM nM L F B A H → va_S A s.heap H locs → lv_has ls 8 [(7, .int (iI l7)), (6, .int (iI l6)), (0, .ref (ad 14 0 0)), (5, .int (iI l5))] → W p l e ({ frames := 3, cells := 0, slots := 0, locals := 72 } : Room) s m args below meth c H locs 0 0 (MQ below (Q_M_downEvent D ca ad L r F9 B9 A) args s 0 0 A) (F0 m 102 ls []) := by
  obtain ⟨hx, hb, hr, hml, hown, hts, hlk, hK, hA, hL, hX⟩ := id X
  intro n
  induction n with
  | zero =>
    intros
    rename_i hf _ _ _
    cases hf
  | succ n ih =>
    intro l7 l6 l5 F B H locs ls hf hZ hS hl
    replace hf : (if r32 l7 then if r32 l5 then (if l5 ≤ l7 then some (0, F, B) else if 0 ≤ l7 ∧ l7 < 6 then zbind (f_M_spell K l6 (B 14 0 95 l7) F B) (fun r17 F17 B17 => f_M_downEvent_102 K n (l7 + 1) l6 l5 F17 B17) else none) else none else none) = some (r, F9, B9) := hf
    refine lv_iload hx hb (D_21 W_prog_15_method_156_code_96 6 rfl rfl) (lv_at hl 0 rfl) ?_
    refine lv_iload hx hb (D_21 W_prog_15_method_156_code_96 8 rfl rfl) (lv_at hl 3 rfl) ?_
    obtain ⟨g13, hf⟩ := gif hf
    obtain ⟨g14, hf⟩ := gif hf
    refine zge (tgt := 128) hx hb g13 g14 (D_162 W_prog_15_method_156_code_96 10 rfl rfl rfl) (by decide) (fun h15 => ?_) (fun h15 => ?_)
    · replace hf := gpos hf h15
      cases hf
      exact W.vret hx hb hr (fun t ht hW => ⟨⟨(), rfl, trivial, by rw [ht]; exact hZ, va_K.moved hW.alike hK⟩, hS.F ht⟩) hS.2.2 (D_177 W_prog_15_method_156_code_128 0 rfl rfl) hlk
    · replace hf := gneg hf h15
      refine lv_aload_n hx hb (D_42 W_prog_15_method_156_code_96 13 rfl rfl) rfl (lv_at hl 2 rfl) ?_
      refine lv_iload hx hb (D_21 W_prog_15_method_156_code_96 14 rfl rfl) (lv_at hl 1 rfl) ?_
      refine lv_aload_n hx hb (D_42 W_prog_15_method_156_code_96 16 rfl rfl) rfl (lv_at hl 2 rfl) ?_
      refine zget (ci := 14) (C := RX14) (T := TX14) (v := .ref (ad 14 0 (95 + 1))) (k := 95) hx hb hts inW_14 hown hK hZ (by decide) (by decide) rfl (by decide) k_11_93 rfl (D_180 W_prog_15_method_156_code_96 17 rfl rfl rfl) ?_
      refine lv_iload hx hb (D_21 W_prog_15_method_156_code_96 20 rfl rfl) (lv_at hl 0 rfl) ?_
      obtain ⟨g16, hf⟩ := gif hf
      refine zald (ci := 14) (k := 95) hx hb hK rfl hZ (by decide) (by decide) rfl (Nat.le_of_ble_eq_true rfl) g16.1 g16.2 (D_46 W_prog_15_method_156_code_96 22 rfl rfl) ?_
      obtain ⟨r17, F17, B17, hc17, hf⟩ := gbind hf
      refine va_callv (va_runV (As := [.int (iI l6), .int (iI (B 14 0 95 l7))]) (rest := []) ⟨hx, hb, hml, hown, hts⟩ (c_M_spell (l := l) hc17) (cwV 2 hts (gdV k_13_95 k_13_97 ks_168 k_1_9 k_13_98) rfl rfl rfl (by decide +kernel) ⟨Nat.le_of_ble_eq_true rfl, Nat.le_of_ble_eq_true rfl⟩) (zPV X hZ hS (ci := 14) (by decide) (by decide) (r := (RX14, TX14, 107)) rfl [.int (iI l6), .int (iI (B 14 0 95 l7))]) rfl rfl hl.1 rfl (lv_room (Nat.le_of_ble_eq_true rfl)) (D_182 W_prog_15_method_156_code_96 23 rfl rfl rfl) ⟨Nat.le_of_ble_eq_true rfl, Nat.le_of_ble_eq_true rfl⟩) hS (fun q _ h => zAin X hS q h) (zAin X hS) (fun u17 t17 H17 locs17 ht17 hv17 hw17 hB17 hz17 hk17 hS17 => ?_)
      have hZ17 := zBack X ht17 hB17
      refine lv_iinc (v := iI (l7 + 1)) (lv' := [(7, .int (iI (l7 + 1))), (6, .int (iI l6)), (0, .ref (ad 14 0 0)), (5, .int (iI l5))]) hx hb d_15_156_122 hl (k := 0) rfl (iI_add _ 1) (by decide) rfl (fun ls hl => ?_)
      refine lv_goto (tgt := 102) hx hb (D_167 W_prog_15_method_156_code_96 29 rfl rfl rfl) (by decide) ?_
      exact ih hf hZ17 hS17 (lv_sub hl [0, 1, 2, 3] rfl)

def f_M_downEvent (K : Nat) (l1 : Int) (l2 : Int) (l4 : Int) (l5 : Int) (F : zF) (B : zB) : zO := if 0 ≤ (F 14 0 6) ∧ (F 14 0 6) < 3 then if 0 ≤ l1 ∧ l1 < 4 then if r32 l4 then zbind (f_M_is K l2 l4 F (zup4 B 13 (F 14 0 6) 12 l1 ((B 13 (F 14 0 6) 12 l1) + 1))) (fun r5 F5 B5 => if 0 ≤ (F5 14 0 6) ∧ (F5 14 0 6) < 3 then if 0 ≤ ((1000 * l1) + (B 13 (F 14 0 6) 12 l1)) ∧ ((1000 * l1) + (B 13 (F 14 0 6) 12 l1)) < 4000 then f_M_downEvent_102 K K 0 ((1000 * l1) + (B 13 (F 14 0 6) 12 l1)) l5 F5 (zup4 (zup4 (zup4 (zup4 (zup4 B5 13 (F5 14 0 6) 16 ((1000 * l1) + (B 13 (F 14 0 6) 12 l1)) (F5 14 0 0)) 13 (F5 14 0 6) 17 ((1000 * l1) + (B 13 (F 14 0 6) 12 l1)) (F5 14 0 1)) 13 (F5 14 0 6) 18 ((1000 * l1) + (B 13 (F 14 0 6) 12 l1)) 0) 13 (F5 14 0 6) 22 ((1000 * l1) + (B 13 (F 14 0 6) 12 l1)) 0) 13 (F5 14 0 6) 21 ((1000 * l1) + (B 13 (F 14 0 6) 12 l1)) 0) else none else none) else none else none else none
set_option maxHeartbeats 4000000 in
set_option maxRecDepth 100000 in
theorem c_M_downEvent {l : Launch} {D : va_G} {ca : Nat → ClassId} {ad : Nat → Int → Nat → Nat} {L : List Nat} {aS vS : Nat → Nat} {sz K : Nat}  {l1 : Int} {l2 : Int} {l4 : Int} {l5 : Int} {F F9 : zF} {B B9 : zB} {r : Int} (hf : f_M_downEvent K l1 l2 l4 l5 F B = some (r, F9, B9)) : Met l ({ cls := "StaveHouseModel", name := "downEvent", desc := "(IJII)V" } : Jvm.MethodName) (Cond.code ({ cls := "StaveHouseModel", name := "downEvent", desc := "(IJII)V" } : Jvm.MethodName) prog_15_method_156_code 8 (Option.none : Option Jvm.ClassFile.FieldType) :: wAll) ({ frames := 3, cells := 0, slots := 0, locals := 72 } : Room) (va_Pc [.ref (ad 14 0 0), .int (iI l1), .long (lI l2), .int (iI l4), .int (iI l5)] (zPre D ca ad lnM nM L aS vS F B sz)) (Q_M_downEvent D ca ad L r F9 B9 (zA L sz)) 0 0 (zA L sz) := by
  refine zMet (Qc := Q_M_downEvent D ca ad L r F9 B9) (lv := [(0, .ref (ad 14 0 0)), (1, .int (iI l1)), (2, .long (lI l2)), (4, .int (iI l4)), (5, .int (iI l5))]) (by decide) (Nat.le_of_ble_eq_true rfl) rfl (fun A p e s m below meth c ls X hZ hS hl => ?_)
  obtain ⟨hx, hb, hr, hml, hown, hts, hlk, hK, hA, hL, hX⟩ := id X
  replace hf : (if 0 ≤ (F 14 0 6) ∧ (F 14 0 6) < 3 then if 0 ≤ l1 ∧ l1 < 4 then if r32 l4 then zbind (f_M_is K l2 l4 F (zup4 B 13 (F 14 0 6) 12 l1 ((B 13 (F 14 0 6) 12 l1) + 1))) (fun r5 F5 B5 => if 0 ≤ (F5 14 0 6) ∧ (F5 14 0 6) < 3 then if 0 ≤ ((1000 * l1) + (B 13 (F 14 0 6) 12 l1)) ∧ ((1000 * l1) + (B 13 (F 14 0 6) 12 l1)) < 4000 then f_M_downEvent_102 K K 0 ((1000 * l1) + (B 13 (F 14 0 6) 12 l1)) l5 F5 (zup4 (zup4 (zup4 (zup4 (zup4 B5 13 (F5 14 0 6) 16 ((1000 * l1) + (B 13 (F 14 0 6) 12 l1)) (F5 14 0 0)) 13 (F5 14 0 6) 17 ((1000 * l1) + (B 13 (F 14 0 6) 12 l1)) (F5 14 0 1)) 13 (F5 14 0 6) 18 ((1000 * l1) + (B 13 (F 14 0 6) 12 l1)) 0) 13 (F5 14 0 6) 22 ((1000 * l1) + (B 13 (F 14 0 6) 12 l1)) 0) 13 (F5 14 0 6) 21 ((1000 * l1) + (B 13 (F 14 0 6) 12 l1)) 0) else none else none) else none else none else none) = some (r, F9, B9) := hf
  refine lv_sipush (v := iI 1000) hx hb (D_17 W_prog_15_method_156_code_0 0 rfl rfl rfl) (by decide) ?_
  refine lv_iload_n hx hb (D_27 W_prog_15_method_156_code_0 3 rfl rfl) rfl (lv_at hl 1 rfl) ?_
  refine zmul hx hb (D_104 W_prog_15_method_156_code_0 4 rfl rfl) ?_
  refine lv_aload_n hx hb (D_42 W_prog_15_method_156_code_0 5 rfl rfl) rfl (lv_at hl 0 rfl) ?_
  refine zget (ci := 14) (C := RX14) (T := TX14) (v := va_rf (zrf ad 13 (F 14 0 6))) (k := 6) hx hb hts inW_14 hown hK hZ (by decide) (by decide) rfl (by decide) k_11_4 rfl (D_180 W_prog_15_method_156_code_0 6 rfl rfl rfl) ?_
  obtain ⟨g1, hf⟩ := gif hf
  refine zunrf g1.1 ?_
  refine zget (ci := 13) (C := RX13) (T := TX13) (v := .ref (ad 13 (F 14 0 6) (12 + 1))) (k := 12) hx hb hts inW_13 hown hK hZ g1.1 g1.2 rfl (by decide) k_9_142 rfl (D_180 W_prog_15_method_156_code_0 9 rfl rfl rfl) ?_
  refine lv_iload_n hx hb (D_27 W_prog_15_method_156_code_0 12 rfl rfl) rfl (lv_at hl 1 rfl) ?_
  obtain ⟨g2, hf⟩ := gif hf
  refine zald (ci := 13) (k := 12) hx hb hK rfl hZ g1.1 g1.2 rfl (Nat.le_of_ble_eq_true rfl) g2.1 g2.2 (D_46 W_prog_15_method_156_code_0 13 rfl rfl) ?_
  refine zadd hx hb (D_96 W_prog_15_method_156_code_0 14 rfl rfl) ?_
  refine lv_istore (lv' := [(6, .int (iI ((1000 * l1) + (B 13 (F 14 0 6) 12 l1)))), (0, .ref (ad 14 0 0)), (1, .int (iI l1)), (2, .long (lI l2)), (4, .int (iI l4)), (5, .int (iI l5))]) hx hb (D_54 W_prog_15_method_156_code_0 15 rfl rfl) hl (by decide) rfl (fun ls hl => ?_)
  refine lv_aload_n hx hb (D_42 W_prog_15_method_156_code_0 17 rfl rfl) rfl (lv_at hl 1 rfl) ?_
  refine zget (ci := 14) (C := RX14) (T := TX14) (v := va_rf (zrf ad 13 (F 14 0 6))) (k := 6) hx hb hts inW_14 hown hK hZ (by decide) (by decide) rfl (by decide) k_11_4 rfl (D_180 W_prog_15_method_156_code_0 18 rfl rfl rfl) ?_
  refine zunrf g1.1 ?_
  refine zget (ci := 13) (C := RX13) (T := TX13) (v := .ref (ad 13 (F 14 0 6) (12 + 1))) (k := 12) hx hb hts inW_13 hown hK hZ g1.1 g1.2 rfl (by decide) k_9_142 rfl (D_180 W_prog_15_method_156_code_0 21 rfl rfl rfl) ?_
  refine lv_iload_n hx hb (D_27 W_prog_15_method_156_code_0 24 rfl rfl) rfl (lv_at hl 2 rfl) ?_
  refine lv_dup2_11 hx hb (D_92 W_prog_15_method_156_code_0 25 rfl rfl) rfl rfl ?_
  refine zald (ci := 13) (k := 12) hx hb hK rfl hZ g1.1 g1.2 rfl (Nat.le_of_ble_eq_true rfl) g2.1 g2.2 (D_46 W_prog_15_method_156_code_0 26 rfl rfl) ?_
  refine lv_iconst (v := iI 1) hx hb (D_4 W_prog_15_method_156_code_0 27 rfl rfl) rfl ?_
  refine zadd hx hb (D_96 W_prog_15_method_156_code_0 28 rfl rfl) ?_
  refine zast (ci := 13) (k := 12) hx hb hK rfl hZ hS g1.1 g1.2 rfl (Nat.le_of_ble_eq_true rfl) g2.1 g2.2 (D_79 W_prog_15_method_156_code_0 29 rfl rfl) (fun H3 locs3 hZ3 hS3 => ?_)
  refine lv_aload_n hx hb (D_42 W_prog_15_method_156_code_0 30 rfl rfl) rfl (lv_at hl 1 rfl) ?_
  refine lv_lload_n hx hb (D_32 W_prog_15_method_156_code_0 31 rfl rfl) rfl (lv_at hl 3 rfl) ?_
  refine lv_iload hx hb (D_21 W_prog_15_method_156_code_32 0 rfl rfl) (lv_at hl 4 rfl) ?_
  obtain ⟨g4, hf⟩ := gif hf
  refine zi2l hx hb g4 (D_133 W_prog_15_method_156_code_32 2 rfl rfl) ?_
  obtain ⟨r5, F5, B5, hc5, hf⟩ := gbind hf
  refine va_callv (va_runV (As := [.long (lI l2), .long (lI l4)]) (rest := []) ⟨hx, hb, hml, hown, hts⟩ (c_M_is (l := l) hc5) (cwV 2 hts (gdV k_12_154 k_12_156 ks_136 k_1_9 k_12_157) rfl rfl rfl (by decide +kernel) ⟨Nat.le_of_ble_eq_true rfl, Nat.le_of_ble_eq_true rfl⟩) (zPV X hZ3 hS3 (ci := 14) (by decide) (by decide) (r := (RX14, TX14, 107)) rfl [.long (lI l2), .long (lI l4)]) rfl rfl hl.1 rfl (lv_room (Nat.le_of_ble_eq_true rfl)) (D_182 W_prog_15_method_156_code_32 3 rfl rfl rfl) ⟨Nat.le_of_ble_eq_true rfl, Nat.le_of_ble_eq_true rfl⟩) hS3 (fun q _ h => zAin X hS3 q h) (zAin X hS3) (fun u5 t5 H5 locs5 ht5 hv5 hw5 hB5 hz5 hk5 hS5 => ?_)
  have hZ5 := zBack X ht5 hB5
  refine lv_aload_n hx hb (D_42 W_prog_15_method_156_code_32 6 rfl rfl) rfl (lv_at hl 1 rfl) ?_
  refine zget (ci := 14) (C := RX14) (T := TX14) (v := va_rf (zrf ad 13 (F5 14 0 6))) (k := 6) hx hb hts inW_14 hown hK hZ5 (by decide) (by decide) rfl (by decide) k_11_4 rfl (D_180 W_prog_15_method_156_code_32 7 rfl rfl rfl) ?_
  obtain ⟨g6, hf⟩ := gif hf
  refine zunrf g6.1 ?_
  refine zget (ci := 13) (C := RX13) (T := TX13) (v := .ref (ad 13 (F5 14 0 6) (16 + 1))) (k := 16) hx hb hts inW_13 hown hK hZ5 g6.1 g6.2 rfl (by decide) k_9_150 rfl (D_180 W_prog_15_method_156_code_32 10 rfl rfl rfl) ?_
  refine lv_iload hx hb (D_21 W_prog_15_method_156_code_32 13 rfl rfl) (lv_at hl 0 rfl) ?_
  refine lv_aload_n hx hb (D_42 W_prog_15_method_156_code_32 15 rfl rfl) rfl (lv_at hl 1 rfl) ?_
  refine zget (ci := 14) (C := RX14) (T := TX14) (v := .long (lI (F5 14 0 0))) (k := 0) hx hb hts inW_14 hown hK hZ5 (by decide) (by decide) rfl (by decide) k_10_238 rfl (D_180 W_prog_15_method_156_code_32 16 rfl rfl rfl) ?_
  obtain ⟨g7, hf⟩ := gif hf
  refine zlast (ci := 13) (k := 16) hx hb hK rfl hZ5 hS5 g6.1 g6.2 rfl (Nat.le_of_ble_eq_true rfl) g7.1 g7.2 (D_80 W_prog_15_method_156_code_32 19 rfl rfl) (fun H8 locs8 hZ8 hS8 => ?_)
  refine lv_aload_n hx hb (D_42 W_prog_15_method_156_code_32 20 rfl rfl) rfl (lv_at hl 1 rfl) ?_
  refine zget (ci := 14) (C := RX14) (T := TX14) (v := va_rf (zrf ad 13 (F5 14 0 6))) (k := 6) hx hb hts inW_14 hown hK hZ8 (by decide) (by decide) rfl (by decide) k_11_4 rfl (D_180 W_prog_15_method_156_code_32 21 rfl rfl rfl) ?_
  refine zunrf g6.1 ?_
  refine zget (ci := 13) (C := RX13) (T := TX13) (v := .ref (ad 13 (F5 14 0 6) (17 + 1))) (k := 17) hx hb hts inW_13 hown hK hZ8 g6.1 g6.2 rfl (by decide) k_9_152 rfl (D_180 W_prog_15_method_156_code_32 24 rfl rfl rfl) ?_
  refine lv_iload hx hb (D_21 W_prog_15_method_156_code_32 27 rfl rfl) (lv_at hl 0 rfl) ?_
  refine lv_aload_n hx hb (D_42 W_prog_15_method_156_code_32 29 rfl rfl) rfl (lv_at hl 1 rfl) ?_
  refine zget (ci := 14) (C := RX14) (T := TX14) (v := .long (lI (F5 14 0 1))) (k := 1) hx hb hts inW_14 hown hK hZ8 (by decide) (by decide) rfl (by decide) k_10_239 rfl (D_180 W_prog_15_method_156_code_32 30 rfl rfl rfl) ?_
  refine zlast (ci := 13) (k := 17) hx hb hK rfl hZ8 hS8 g6.1 g6.2 rfl (Nat.le_of_ble_eq_true rfl) g7.1 g7.2 (D_80 W_prog_15_method_156_code_64 1 rfl rfl) (fun H9 locs9 hZ9 hS9 => ?_)
  refine lv_aload_n hx hb (D_42 W_prog_15_method_156_code_64 2 rfl rfl) rfl (lv_at hl 1 rfl) ?_
  refine zget (ci := 14) (C := RX14) (T := TX14) (v := va_rf (zrf ad 13 (F5 14 0 6))) (k := 6) hx hb hts inW_14 hown hK hZ9 (by decide) (by decide) rfl (by decide) k_11_4 rfl (D_180 W_prog_15_method_156_code_64 3 rfl rfl rfl) ?_
  refine zunrf g6.1 ?_
  refine zget (ci := 13) (C := RX13) (T := TX13) (v := .ref (ad 13 (F5 14 0 6) (18 + 1))) (k := 18) hx hb hts inW_13 hown hK hZ9 g6.1 g6.2 rfl (by decide) k_9_154 rfl (D_180 W_prog_15_method_156_code_64 6 rfl rfl rfl) ?_
  refine lv_iload hx hb (D_21 W_prog_15_method_156_code_64 9 rfl rfl) (lv_at hl 0 rfl) ?_
  refine lv_iconst (v := iI 0) hx hb (D_3 W_prog_15_method_156_code_64 11 rfl rfl) rfl ?_
  refine zast (ci := 13) (k := 18) hx hb hK rfl hZ9 hS9 g6.1 g6.2 rfl (Nat.le_of_ble_eq_true rfl) g7.1 g7.2 (D_79 W_prog_15_method_156_code_64 12 rfl rfl) (fun H10 locs10 hZ10 hS10 => ?_)
  refine lv_aload_n hx hb (D_42 W_prog_15_method_156_code_64 13 rfl rfl) rfl (lv_at hl 1 rfl) ?_
  refine zget (ci := 14) (C := RX14) (T := TX14) (v := va_rf (zrf ad 13 (F5 14 0 6))) (k := 6) hx hb hts inW_14 hown hK hZ10 (by decide) (by decide) rfl (by decide) k_11_4 rfl (D_180 W_prog_15_method_156_code_64 14 rfl rfl rfl) ?_
  refine zunrf g6.1 ?_
  refine zget (ci := 13) (C := RX13) (T := TX13) (v := .ref (ad 13 (F5 14 0 6) (22 + 1))) (k := 22) hx hb hts inW_13 hown hK hZ10 g6.1 g6.2 rfl (by decide) k_9_162 rfl (D_180 W_prog_15_method_156_code_64 17 rfl rfl rfl) ?_
  refine lv_iload hx hb (D_21 W_prog_15_method_156_code_64 20 rfl rfl) (lv_at hl 0 rfl) ?_
  refine lv_iconst (v := iI 0) hx hb (D_3 W_prog_15_method_156_code_64 22 rfl rfl) rfl ?_
  refine zast (ci := 13) (k := 22) hx hb hK rfl hZ10 hS10 g6.1 g6.2 rfl (Nat.le_of_ble_eq_true rfl) g7.1 g7.2 (D_79 W_prog_15_method_156_code_64 23 rfl rfl) (fun H11 locs11 hZ11 hS11 => ?_)
  refine lv_aload_n hx hb (D_42 W_prog_15_method_156_code_64 24 rfl rfl) rfl (lv_at hl 1 rfl) ?_
  refine zget (ci := 14) (C := RX14) (T := TX14) (v := va_rf (zrf ad 13 (F5 14 0 6))) (k := 6) hx hb hts inW_14 hown hK hZ11 (by decide) (by decide) rfl (by decide) k_11_4 rfl (D_180 W_prog_15_method_156_code_64 25 rfl rfl rfl) ?_
  refine zunrf g6.1 ?_
  refine zget (ci := 13) (C := RX13) (T := TX13) (v := .ref (ad 13 (F5 14 0 6) (21 + 1))) (k := 21) hx hb hts inW_13 hown hK hZ11 g6.1 g6.2 rfl (by decide) k_9_160 rfl (D_180 W_prog_15_method_156_code_64 28 rfl rfl rfl) ?_
  refine lv_iload hx hb (D_21 W_prog_15_method_156_code_64 31 rfl rfl) (lv_at hl 0 rfl) ?_
  refine lv_iconst (v := iI 0) hx hb (D_3 W_prog_15_method_156_code_96 1 rfl rfl) rfl ?_
  refine zast (ci := 13) (k := 21) hx hb hK rfl hZ11 hS11 g6.1 g6.2 rfl (Nat.le_of_ble_eq_true rfl) g7.1 g7.2 (D_79 W_prog_15_method_156_code_96 2 rfl rfl) (fun H12 locs12 hZ12 hS12 => ?_)
  refine lv_iconst (v := iI 0) hx hb (D_3 W_prog_15_method_156_code_96 3 rfl rfl) rfl ?_
  refine lv_istore (lv' := [(7, .int (iI 0)), (6, .int (iI ((1000 * l1) + (B 13 (F 14 0 6) 12 l1)))), (0, .ref (ad 14 0 0)), (1, .int (iI l1)), (2, .long (lI l2)), (4, .int (iI l4)), (5, .int (iI l5))]) hx hb (D_54 W_prog_15_method_156_code_96 4 rfl rfl) hl (by decide) rfl (fun ls hl => ?_)
  exact b_M_downEvent_102 X hf hZ12 hS12 (lv_sub hl [0, 1, 2, 6] rfl)

abbrev Q_M_strength (D : va_G) (ca : Nat → ClassId) (ad : Nat → Int → Nat → Nat) (L : List Nat) (r : Int) (F : zF) (B : zB) (A : Nat → Prop) : Array Value → State → Outcome → State → Prop := va_Qi (S := Unit) (fun p _ => p = iI r) (fun _ => zPo D ca ad lnM nM L F B A) A
def f_M_strength_96 (K : Nat) : Nat → Int → Int → Int → Int → zF → zB → zO
  | 0, _, _, _, _, _, _ => none
  | n + 1, l7, l6, l2, l4, F, B => if r32 l6 then (if l6 ≤ 1 then some (1, F, B) else zbind (f_M_isMultiple K l2 l4 1 l7 F B) (fun r26 F26 B26 => if r32 r26 then (if r26 = 0 then f_M_strength_96 K n (l7 * 2) (l6 - 1) l2 l4 F26 B26 else some (l6, F26, B26)) else none)) else none
set_option maxHeartbeats 4000000 in
set_option maxRecDepth 100000 in
theorem b_M_strength_96 {D : va_G} {ca : Nat → ClassId} {ad : Nat → Int → Nat → Nat} {L : List Nat} {aS vS : Nat → Nat} {A : Nat → Prop} {p : Program} {l : Launch} {e : Env} {s : State} {m : MethodId} {args : Array Value} {below : List Frame} {meth : Method} {c : Code} {K : Nat} {r : Int} {F9 : zF} {B9 : zB} (X : zX D ca L aS vS A p s m args meth c prog_15_method_79_code 9 (Option.some Jvm.ClassFile.FieldType.int) "StaveHouseModel") : ∀ {n : Nat} {l7 : Int} {l6 : Int} {l2 : Int} {l4 : Int} {F : zF} {B : zB} {H : Heap} {locs : List Loc} {ls : Array Slot}, f_M_strength_96 K n l7 l6 l2 l4 F B = some (r, F9, B9) → zH D ca ad lnM nM L F B A H → va_S A s.heap H locs → lv_has ls 9 [(7, .long (lI l7)), (6, .int (iI l6)), (2, .long (lI l2)), (4, .long (lI l4))] → W p l e ({ frames := 2, cells := 0, slots := 0, locals := 62 } : Room) s m args below meth c H locs 0 0 (MQ below (Q_M_strength D ca ad L r F9 B9 A) args s 0 0 A) (F0 m 96 ls []) := by
  obtain ⟨hx, hb, hr, hml, hown, hts, hlk, hK, hA, hL, hX⟩ := id X
  intro n
  induction n with
  | zero =>
    intros
    rename_i hf _ _ _
    cases hf
  | succ n ih =>
    intro l7 l6 l2 l4 F B H locs ls hf hZ hS hl
    replace hf : (if r32 l6 then (if l6 ≤ 1 then some (1, F, B) else zbind (f_M_isMultiple K l2 l4 1 l7 F B) (fun r26 F26 B26 => if r32 r26 then (if r26 = 0 then f_M_strength_96 K n (l7 * 2) (l6 - 1) l2 l4 F26 B26 else some (l6, F26, B26)) else none)) else none) = some (r, F9, B9) := hf
    refine lv_iload hx hb (D_21 W_prog_15_method_79_code_96 0 rfl rfl) (lv_at hl 1 rfl) ?_
    refine lv_iconst (v := iI 1) hx hb (D_4 W_prog_15_method_79_code_96 2 rfl rfl) rfl ?_
    obtain ⟨g24, hf⟩ := gif hf
    refine zle (tgt := 131) hx hb g24 (by decide) (D_164 W_prog_15_method_79_code_96 3 rfl rfl rfl) (by decide) (fun h25 => ?_) (fun h25 => ?_)
    · replace hf := gpos hf h25
      refine lv_iconst (v := iI 1) hx hb (D_4 W_prog_15_method_79_code_128 3 rfl rfl) rfl ?_
      cases hf
      exact W.iret hx hb hr (fun t ht hW => ⟨⟨_, (), rfl, rfl, by rw [ht]; exact hZ, va_K.moved hW.alike hK⟩, hS.F ht⟩) hS.2.2 (D_172 W_prog_15_method_79_code_128 4 rfl rfl) hlk
    · replace hf := gneg hf h25
      refine lv_lload_n hx hb (D_32 W_prog_15_method_79_code_96 6 rfl rfl) rfl (lv_at hl 2 rfl) ?_
      refine lv_lload hx hb (D_22 W_prog_15_method_79_code_96 7 rfl rfl) (lv_at hl 3 rfl) ?_
      refine lv_lconst (v := lI 1) hx hb (D_10 W_prog_15_method_79_code_96 9 rfl rfl) (by decide) ?_
      refine lv_lload hx hb (D_22 W_prog_15_method_79_code_96 10 rfl rfl) (lv_at hl 0 rfl) ?_
      obtain ⟨r26, F26, B26, hc26, hf⟩ := gbind hf
      refine va_calli (va_runS (As := [.long (lI l2), .long (lI l4), .long (lI 1), .long (lI l7)]) (rest := []) ⟨hx, hb, hml, hown, hts⟩ (c_M_isMultiple (l := l) hc26) (va_cwS 4 hts (gdS k_13_185 k_13_186 k_1_9 k_13_187) rfl rfl rfl (by decide +kernel) ⟨Nat.le_of_ble_eq_true rfl, Nat.le_of_ble_eq_true rfl⟩) (zPS X hZ hS [.long (lI l2), .long (lI l4), .long (lI 1), .long (lI l7)]) rfl rfl hl.1 rfl (lv_room (Nat.le_of_ble_eq_true rfl)) (D_184 W_prog_15_method_79_code_96 12 rfl rfl rfl) ⟨Nat.le_of_ble_eq_true rfl, Nat.le_of_ble_eq_true rfl⟩) hS (fun q _ h => zAin X hS q h) (zAin X hS) (fun p26 u26 t26 H26 locs26 ht26 hv26 hw26 hB26 hz26 hk26 hS26 => ?_)
      have hZ26 := zBack X ht26 hB26
      subst hw26
      obtain ⟨g27, hf⟩ := gif hf
      refine z0eq (tgt := 117) hx hb g27 (D_153 W_prog_15_method_79_code_96 15 rfl rfl rfl) (by decide) (fun h28 => ?_) (fun h28 => ?_)
      · replace hf := gpos hf h28
        refine lv_iinc (v := iI (l6 - 1)) (lv' := [(6, .int (iI (l6 - 1))), (7, .long (lI l7)), (2, .long (lI l2)), (4, .long (lI l4))]) hx hb d_15_79_117 hl (k := 1) rfl (by rw [show Int32.ofInt (-1) = iI (-1) from rfl, iI_add]; congr 1) (by decide) rfl (fun ls hl => ?_)
        refine lv_lload hx hb (D_22 W_prog_15_method_79_code_96 24 rfl rfl) (lv_at hl 1 rfl) ?_
        refine lv_ldc2 hx hb hown (hts _ k_13_89) (D_20 W_prog_15_method_79_code_96 26 rfl rfl rfl) ?_
        refine W.eq (g2 := F0 m 125 ls [.long (lI 2), .long (lI l7)]) rfl ?_
        refine zlmul hx hb (D_105 W_prog_15_method_79_code_96 29 rfl rfl) ?_
        refine lv_lstore (lv' := [(7, .long (lI (l7 * 2))), (6, .int (iI (l6 - 1))), (2, .long (lI l2)), (4, .long (lI l4))]) hx hb (D_55 W_prog_15_method_79_code_96 30 rfl rfl) hl (by decide) rfl (fun ls hl => ?_)
        refine lv_goto (tgt := 96) hx hb (D_167 W_prog_15_method_79_code_128 0 rfl rfl rfl) (by decide) ?_
        exact ih hf hZ26 hS26 (lv_sub hl [0, 1, 2, 3] rfl)
      · replace hf := gneg hf h28
        refine lv_iload hx hb (D_21 W_prog_15_method_79_code_96 18 rfl rfl) (lv_at hl 1 rfl) ?_
        cases hf
        exact W.iret hx hb hr (fun t ht hW => ⟨⟨_, (), rfl, rfl, by rw [ht]; exact hZ26, va_K.moved hW.alike hK⟩, hS26.F ht⟩) hS26.2.2 (D_172 W_prog_15_method_79_code_96 20 rfl rfl) hlk

def f_M_strength_63 (K : Nat) (l1 : Int) (l2 : Int) (l4 : Int) (F : zF) (B : zB) : zO := zbind (f_M_beat K l1 F B) (fun r16 F16 B16 => if r32 r16 then if 0 ≤ l1 ∧ l1 < 3 then if r32 (F16 13 l1 5) then zbind (f_M_isMultiple K l2 l4 r16 (F16 13 l1 5) F16 B16) (fun r20 F20 B20 => if r32 r20 then (if r20 = 0 then if r32 (F20 13 l1 5) then f_M_strength_96 K K (F20 13 l1 5) 6 l2 l4 F20 B20 else none else some (7, F20, B20)) else none) else none else none else none)
set_option maxHeartbeats 4000000 in
set_option maxRecDepth 100000 in
theorem b_M_strength_63 {D : va_G} {ca : Nat → ClassId} {ad : Nat → Int → Nat → Nat} {L : List Nat} {aS vS : Nat → Nat} {A : Nat → Prop} {p : Program} {l : Launch} {e : Env} {s : State} {m : MethodId} {args : Array Value} {below : List Frame} {meth : Method} {c : Code} {K : Nat} {r : Int} {F9 : zF} {B9 : zB} (X : zX D ca L aS vS A p s m args meth c prog_15_method_79_code 9 (Option.some Jvm.ClassFile.FieldType.int) "StaveHouseModel") {l1 : Int} {l2 : Int} {l4 : Int} {F : zF} {B : zB} {H : Heap} {locs : List Loc} {ls : Array Slot} (hf : f_M_strength_63 K l1 l2 l4 F B = some (r, F9, B9)) (hZ : zH D ca ad lnM nM L F B A H) (hS : va_S A s.heap H locs) (hl : lv_has ls 9 [(1, .ref (ad 13 l1 0)), (2, .long (lI l2)), (4, .long (lI l4))]) : W p l e ({ frames := 2, cells := 0, slots := 0, locals := 62 } : Room) s m args below meth c H locs 0 0 (MQ below (Q_M_strength D ca ad L r F9 B9 A) args s 0 0 A) (F0 m 63 ls []) := by
  obtain ⟨hx, hb, hr, hml, hown, hts, hlk, hK, hA, hL, hX⟩ := id X
  replace hf : (zbind (f_M_beat K l1 F B) (fun r16 F16 B16 => if r32 r16 then if 0 ≤ l1 ∧ l1 < 3 then if r32 (F16 13 l1 5) then zbind (f_M_isMultiple K l2 l4 r16 (F16 13 l1 5) F16 B16) (fun r20 F20 B20 => if r32 r20 then (if r20 = 0 then if r32 (F20 13 l1 5) then f_M_strength_96 K K (F20 13 l1 5) 6 l2 l4 F20 B20 else none else some (7, F20, B20)) else none) else none else none else none)) = some (r, F9, B9) := hf
  refine lv_lload_n hx hb (D_32 W_prog_15_method_79_code_32 31 rfl rfl) rfl (lv_at hl 1 rfl) ?_
  refine lv_lload hx hb (D_22 W_prog_15_method_79_code_64 0 rfl rfl) (lv_at hl 2 rfl) ?_
  refine lv_aload_n hx hb (D_43 W_prog_15_method_79_code_64 2 rfl rfl) rfl (lv_at hl 0 rfl) ?_
  obtain ⟨r16, F16, B16, hc16, hf⟩ := gbind hf
  refine va_calli (va_runS (As := [.ref (ad 13 l1 0)]) (rest := [.long (lI l4), .long (lI l2)]) ⟨hx, hb, hml, hown, hts⟩ (c_M_beat (l := l) hc16) (va_cwS 1 hts (gdS k_13_179 k_13_180 k_1_9 k_13_181) rfl rfl rfl (by decide +kernel) ⟨Nat.le_of_ble_eq_true rfl, Nat.le_of_ble_eq_true rfl⟩) (zPS X hZ hS [.ref (ad 13 l1 0)]) rfl rfl hl.1 rfl (lv_room (Nat.le_of_ble_eq_true rfl)) (D_184 W_prog_15_method_79_code_64 3 rfl rfl rfl) ⟨Nat.le_of_ble_eq_true rfl, Nat.le_of_ble_eq_true rfl⟩) hS (fun q _ h => zAin X hS q h) (zAin X hS) (fun p16 u16 t16 H16 locs16 ht16 hv16 hw16 hB16 hz16 hk16 hS16 => ?_)
  have hZ16 := zBack X ht16 hB16
  subst hw16
  obtain ⟨g17, hf⟩ := gif hf
  refine zi2l hx hb g17 (D_133 W_prog_15_method_79_code_64 6 rfl rfl) ?_
  refine lv_aload_n hx hb (D_43 W_prog_15_method_79_code_64 7 rfl rfl) rfl (lv_at hl 0 rfl) ?_
  obtain ⟨g18, hf⟩ := gif hf
  refine zget (ci := 13) (C := RX13) (T := TX13) (v := .int (iI (F16 13 l1 5))) (k := 5) hx hb hts inW_13 hown hK hZ16 g18.1 g18.2 rfl (by decide) k_9_130 rfl (D_180 W_prog_15_method_79_code_64 8 rfl rfl rfl) ?_
  obtain ⟨g19, hf⟩ := gif hf
  refine zi2l hx hb g19 (D_133 W_prog_15_method_79_code_64 11 rfl rfl) ?_
  obtain ⟨r20, F20, B20, hc20, hf⟩ := gbind hf
  refine va_calli (va_runS (As := [.long (lI l2), .long (lI l4), .long (lI r16), .long (lI (F16 13 l1 5))]) (rest := []) ⟨hx, hb, hml, hown, hts⟩ (c_M_isMultiple (l := l) hc20) (va_cwS 4 hts (gdS k_13_185 k_13_186 k_1_9 k_13_187) rfl rfl rfl (by decide +kernel) ⟨Nat.le_of_ble_eq_true rfl, Nat.le_of_ble_eq_true rfl⟩) (zPS X hZ16 hS16 [.long (lI l2), .long (lI l4), .long (lI r16), .long (lI (F16 13 l1 5))]) rfl rfl hl.1 rfl (lv_room (Nat.le_of_ble_eq_true rfl)) (D_184 W_prog_15_method_79_code_64 12 rfl rfl rfl) ⟨Nat.le_of_ble_eq_true rfl, Nat.le_of_ble_eq_true rfl⟩) hS16 (fun q _ h => zAin X hS16 q h) (zAin X hS16) (fun p20 u20 t20 H20 locs20 ht20 hv20 hw20 hB20 hz20 hk20 hS20 => ?_)
  have hZ20 := zBack X ht20 hB20
  subst hw20
  obtain ⟨g21, hf⟩ := gif hf
  refine z0eq (tgt := 85) hx hb g21 (D_153 W_prog_15_method_79_code_64 15 rfl rfl rfl) (by decide) (fun h22 => ?_) (fun h22 => ?_)
  · replace hf := gpos hf h22
    refine lv_bipush (v := iI 6) hx hb (D_16 W_prog_15_method_79_code_64 21 rfl rfl rfl) (by decide) ?_
    refine lv_istore (lv' := [(6, .int (iI 6)), (1, .ref (ad 13 l1 0)), (2, .long (lI l2)), (4, .long (lI l4))]) hx hb (D_54 W_prog_15_method_79_code_64 23 rfl rfl) hl (by decide) rfl (fun ls hl => ?_)
    refine lv_aload_n hx hb (D_43 W_prog_15_method_79_code_64 25 rfl rfl) rfl (lv_at hl 1 rfl) ?_
    refine zget (ci := 13) (C := RX13) (T := TX13) (v := .int (iI (F20 13 l1 5))) (k := 5) hx hb hts inW_13 hown hK hZ20 g18.1 g18.2 rfl (by decide) k_9_130 rfl (D_180 W_prog_15_method_79_code_64 26 rfl rfl rfl) ?_
    obtain ⟨g23, hf⟩ := gif hf
    refine zi2l hx hb g23 (D_133 W_prog_15_method_79_code_64 29 rfl rfl) ?_
    refine lv_lstore (lv' := [(7, .long (lI (F20 13 l1 5))), (6, .int (iI 6)), (1, .ref (ad 13 l1 0)), (2, .long (lI l2)), (4, .long (lI l4))]) hx hb (D_55 W_prog_15_method_79_code_64 30 rfl rfl) hl (by decide) rfl (fun ls hl => ?_)
    exact b_M_strength_96 X hf hZ20 hS20 (lv_sub hl [0, 1, 3, 4] rfl)
  · replace hf := gneg hf h22
    refine lv_bipush (v := iI 7) hx hb (D_16 W_prog_15_method_79_code_64 18 rfl rfl rfl) (by decide) ?_
    cases hf
    exact W.iret hx hb hr (fun t ht hW => ⟨⟨_, (), rfl, rfl, by rw [ht]; exact hZ20, va_K.moved hW.alike hK⟩, hS20.F ht⟩) hS20.2.2 (D_172 W_prog_15_method_79_code_64 20 rfl rfl) hlk

def f_M_strength_25 (K : Nat)  (F : zF) (B : zB) : zO := some (9, F, B)
set_option maxHeartbeats 4000000 in
set_option maxRecDepth 100000 in
theorem b_M_strength_25 {D : va_G} {ca : Nat → ClassId} {ad : Nat → Int → Nat → Nat} {L : List Nat} {aS vS : Nat → Nat} {A : Nat → Prop} {p : Program} {l : Launch} {e : Env} {s : State} {m : MethodId} {args : Array Value} {below : List Frame} {meth : Method} {c : Code} {K : Nat} {r : Int} {F9 : zF} {B9 : zB} (X : zX D ca L aS vS A p s m args meth c prog_15_method_79_code 9 (Option.some Jvm.ClassFile.FieldType.int) "StaveHouseModel")  {F : zF} {B : zB} {H : Heap} {locs : List Loc} {ls : Array Slot} (hf : f_M_strength_25 K  F B = some (r, F9, B9)) (hZ : zH D ca ad lnM nM L F B A H) (hS : va_S A s.heap H locs) (hl : lv_has ls 9 []) : W p l e ({ frames := 2, cells := 0, slots := 0, locals := 62 } : Room) s m args below meth c H locs 0 0 (MQ below (Q_M_strength D ca ad L r F9 B9 A) args s 0 0 A) (F0 m 25 ls []) := by
  obtain ⟨hx, hb, hr, hml, hown, hts, hlk, hK, hA, hL, hX⟩ := id X
  replace hf : (some (9, F, B)) = some (r, F9, B9) := hf
  refine lv_bipush (v := iI 9) hx hb (D_16 W_prog_15_method_79_code_0 25 rfl rfl rfl) (by decide) ?_
  cases hf
  exact W.iret hx hb hr (fun t ht hW => ⟨⟨_, (), rfl, rfl, by rw [ht]; exact hZ, va_K.moved hW.alike hK⟩, hS.F ht⟩) hS.2.2 (D_172 W_prog_15_method_79_code_0 27 rfl rfl) hlk

def f_M_strength (K : Nat) (l1 : Int) (l2 : Int) (l4 : Int) (F : zF) (B : zB) : zO := if r64 l2 then (if (zcmp l2 0) = 0 then f_M_strength_25 K F B else if 0 ≤ l1 ∧ l1 < 3 then if r32 (F 13 l1 4) then if r32 (F 13 l1 5) then zbind (f_M_compare K l2 l4 (F 13 l1 4) (F 13 l1 5) F B) (fun r6 F6 B6 => if r32 r6 then (if r6 = 0 then f_M_strength_25 K F6 B6 else if r32 (zrm (F6 13 l1 4) 2) then (if (zrm (F6 13 l1 4) 2) = 0 then if r32 (F6 13 l1 4) then if r32 (F6 13 l1 5) then zbind (f_M_compare K l2 l4 (F6 13 l1 4) (2 * (F6 13 l1 5)) F6 B6) (fun r13 F13 B13 => if r32 r13 then (if r13 = 0 then some (8, F13, B13) else f_M_strength_63 K l1 l2 l4 F13 B13) else none) else none else none else f_M_strength_63 K l1 l2 l4 F6 B6) else none) else none) else none else none else none) else none
set_option maxHeartbeats 4000000 in
set_option maxRecDepth 100000 in
theorem c_M_strength {l : Launch} {D : va_G} {ca : Nat → ClassId} {ad : Nat → Int → Nat → Nat} {L : List Nat} {aS vS : Nat → Nat} {sz K : Nat}  {l1 : Int} {l2 : Int} {l4 : Int} {F F9 : zF} {B B9 : zB} {r : Int} (hf : f_M_strength K l1 l2 l4 F B = some (r, F9, B9)) : Met l ({ cls := "StaveHouseModel", name := "strength", desc := "(LStaveHouseModel$Piece;JJ)I" } : Jvm.MethodName) (Cond.code ({ cls := "StaveHouseModel", name := "strength", desc := "(LStaveHouseModel$Piece;JJ)I" } : Jvm.MethodName) prog_15_method_79_code 9 (Option.some Jvm.ClassFile.FieldType.int) :: wAll) ({ frames := 2, cells := 0, slots := 0, locals := 62 } : Room) (va_Pc [.ref (ad 14 0 0), .ref (ad 13 l1 0), .long (lI l2), .long (lI l4)] (zPre D ca ad lnM nM L aS vS F B sz)) (Q_M_strength D ca ad L r F9 B9 (zA L sz)) 0 0 (zA L sz) := by
  refine zMet (Qc := Q_M_strength D ca ad L r F9 B9) (lv := [(0, .ref (ad 14 0 0)), (1, .ref (ad 13 l1 0)), (2, .long (lI l2)), (4, .long (lI l4))]) (by decide) (Nat.le_of_ble_eq_true rfl) rfl (fun A p e s m below meth c ls X hZ hS hl => ?_)
  obtain ⟨hx, hb, hr, hml, hown, hts, hlk, hK, hA, hL, hX⟩ := id X
  replace hf : (if r64 l2 then (if (zcmp l2 0) = 0 then f_M_strength_25 K F B else if 0 ≤ l1 ∧ l1 < 3 then if r32 (F 13 l1 4) then if r32 (F 13 l1 5) then zbind (f_M_compare K l2 l4 (F 13 l1 4) (F 13 l1 5) F B) (fun r6 F6 B6 => if r32 r6 then (if r6 = 0 then f_M_strength_25 K F6 B6 else if r32 (zrm (F6 13 l1 4) 2) then (if (zrm (F6 13 l1 4) 2) = 0 then if r32 (F6 13 l1 4) then if r32 (F6 13 l1 5) then zbind (f_M_compare K l2 l4 (F6 13 l1 4) (2 * (F6 13 l1 5)) F6 B6) (fun r13 F13 B13 => if r32 r13 then (if r13 = 0 then some (8, F13, B13) else f_M_strength_63 K l1 l2 l4 F13 B13) else none) else none else none else f_M_strength_63 K l1 l2 l4 F6 B6) else none) else none) else none else none else none) else none) = some (r, F9, B9) := hf
  refine lv_lload_n hx hb (D_32 W_prog_15_method_79_code_0 0 rfl rfl) rfl (lv_at hl 2 rfl) ?_
  refine lv_lconst (v := lI 0) hx hb (D_9 W_prog_15_method_79_code_0 1 rfl rfl) (by decide) ?_
  obtain ⟨g1, hf⟩ := gif hf
  refine zcmp_r hx hb g1 (by decide) (D_148 W_prog_15_method_79_code_0 2 rfl rfl) ?_
  refine z0eq (tgt := 25) hx hb zcmp_32 (D_153 W_prog_15_method_79_code_0 3 rfl rfl rfl) (by decide) (fun h2 => ?_) (fun h2 => ?_)
  · replace hf := gpos hf h2
    exact b_M_strength_25 X hf hZ hS (lv_sub hl [] rfl)
  · replace hf := gneg hf h2
    refine lv_lload_n hx hb (D_32 W_prog_15_method_79_code_0 6 rfl rfl) rfl (lv_at hl 2 rfl) ?_
    refine lv_lload hx hb (D_22 W_prog_15_method_79_code_0 7 rfl rfl) (lv_at hl 3 rfl) ?_
    refine lv_aload_n hx hb (D_43 W_prog_15_method_79_code_0 9 rfl rfl) rfl (lv_at hl 1 rfl) ?_
    obtain ⟨g3, hf⟩ := gif hf
    refine zget (ci := 13) (C := RX13) (T := TX13) (v := .int (iI (F 13 l1 4))) (k := 4) hx hb hts inW_13 hown hK hZ g3.1 g3.2 rfl (by decide) k_9_129 rfl (D_180 W_prog_15_method_79_code_0 10 rfl rfl rfl) ?_
    obtain ⟨g4, hf⟩ := gif hf
    refine zi2l hx hb g4 (D_133 W_prog_15_method_79_code_0 13 rfl rfl) ?_
    refine lv_aload_n hx hb (D_43 W_prog_15_method_79_code_0 14 rfl rfl) rfl (lv_at hl 1 rfl) ?_
    refine zget (ci := 13) (C := RX13) (T := TX13) (v := .int (iI (F 13 l1 5))) (k := 5) hx hb hts inW_13 hown hK hZ g3.1 g3.2 rfl (by decide) k_9_130 rfl (D_180 W_prog_15_method_79_code_0 15 rfl rfl rfl) ?_
    obtain ⟨g5, hf⟩ := gif hf
    refine zi2l hx hb g5 (D_133 W_prog_15_method_79_code_0 18 rfl rfl) ?_
    obtain ⟨r6, F6, B6, hc6, hf⟩ := gbind hf
    refine va_calli (va_runS (As := [.long (lI l2), .long (lI l4), .long (lI (F 13 l1 4)), .long (lI (F 13 l1 5))]) (rest := []) ⟨hx, hb, hml, hown, hts⟩ (c_M_compare (l := l) hc6) (va_cwS 4 hts (gdS k_13_104 k_13_105 k_1_9 k_13_106) rfl rfl rfl (by decide +kernel) ⟨Nat.le_of_ble_eq_true rfl, Nat.le_of_ble_eq_true rfl⟩) (zPS X hZ hS [.long (lI l2), .long (lI l4), .long (lI (F 13 l1 4)), .long (lI (F 13 l1 5))]) rfl rfl hl.1 rfl (lv_room (Nat.le_of_ble_eq_true rfl)) (D_184 W_prog_15_method_79_code_0 19 rfl rfl rfl) ⟨Nat.le_of_ble_eq_true rfl, Nat.le_of_ble_eq_true rfl⟩) hS (fun q _ h => zAin X hS q h) (zAin X hS) (fun p6 u6 t6 H6 locs6 ht6 hv6 hw6 hB6 hz6 hk6 hS6 => ?_)
    have hZ6 := zBack X ht6 hB6
    subst hw6
    obtain ⟨g7, hf⟩ := gif hf
    refine z0ne (tgt := 28) hx hb g7 (D_154 W_prog_15_method_79_code_0 22 rfl rfl rfl) (by decide) (fun h8 => ?_) (fun h8 => ?_)
    · replace hf := gneg hf h8
      refine lv_aload_n hx hb (D_43 W_prog_15_method_79_code_0 28 rfl rfl) rfl (lv_at hl 1 rfl) ?_
      refine zget (ci := 13) (C := RX13) (T := TX13) (v := .int (iI (F6 13 l1 4))) (k := 4) hx hb hts inW_13 hown hK hZ6 g3.1 g3.2 rfl (by decide) k_9_129 rfl (D_180 W_prog_15_method_79_code_0 29 rfl rfl rfl) ?_
      refine lv_iconst (v := iI 2) hx hb (D_5 W_prog_15_method_79_code_32 0 rfl rfl) rfl ?_
      refine zrm_r hx hb (by decide) (D_112 W_prog_15_method_79_code_32 1 rfl rfl) ?_
      obtain ⟨g9, hf⟩ := gif hf
      refine z0ne (tgt := 63) hx hb g9 (D_154 W_prog_15_method_79_code_32 2 rfl rfl rfl) (by decide) (fun h10 => ?_) (fun h10 => ?_)
      · replace hf := gneg hf h10
        exact b_M_strength_63 X hf hZ6 hS6 (lv_sub hl [1, 2, 3] rfl)
      · replace hf := gpos hf h10
        refine lv_lload_n hx hb (D_32 W_prog_15_method_79_code_32 5 rfl rfl) rfl (lv_at hl 2 rfl) ?_
        refine lv_lload hx hb (D_22 W_prog_15_method_79_code_32 6 rfl rfl) (lv_at hl 3 rfl) ?_
        refine lv_aload_n hx hb (D_43 W_prog_15_method_79_code_32 8 rfl rfl) rfl (lv_at hl 1 rfl) ?_
        refine zget (ci := 13) (C := RX13) (T := TX13) (v := .int (iI (F6 13 l1 4))) (k := 4) hx hb hts inW_13 hown hK hZ6 g3.1 g3.2 rfl (by decide) k_9_129 rfl (D_180 W_prog_15_method_79_code_32 9 rfl rfl rfl) ?_
        obtain ⟨g11, hf⟩ := gif hf
        refine zi2l hx hb g11 (D_133 W_prog_15_method_79_code_32 12 rfl rfl) ?_
        refine lv_ldc2 hx hb hown (hts _ k_13_89) (D_20 W_prog_15_method_79_code_32 13 rfl rfl rfl) ?_
        refine W.eq (g2 := F0 m 48 ls [.long (lI 2), .long (lI (F6 13 l1 4)), .long (lI l4), .long (lI l2)]) rfl ?_
        refine lv_aload_n hx hb (D_43 W_prog_15_method_79_code_32 16 rfl rfl) rfl (lv_at hl 1 rfl) ?_
        refine zget (ci := 13) (C := RX13) (T := TX13) (v := .int (iI (F6 13 l1 5))) (k := 5) hx hb hts inW_13 hown hK hZ6 g3.1 g3.2 rfl (by decide) k_9_130 rfl (D_180 W_prog_15_method_79_code_32 17 rfl rfl rfl) ?_
        obtain ⟨g12, hf⟩ := gif hf
        refine zi2l hx hb g12 (D_133 W_prog_15_method_79_code_32 20 rfl rfl) ?_
        refine zlmul hx hb (D_105 W_prog_15_method_79_code_32 21 rfl rfl) ?_
        obtain ⟨r13, F13, B13, hc13, hf⟩ := gbind hf
        refine va_calli (va_runS (As := [.long (lI l2), .long (lI l4), .long (lI (F6 13 l1 4)), .long (lI (2 * (F6 13 l1 5)))]) (rest := []) ⟨hx, hb, hml, hown, hts⟩ (c_M_compare (l := l) hc13) (va_cwS 4 hts (gdS k_13_104 k_13_105 k_1_9 k_13_106) rfl rfl rfl (by decide +kernel) ⟨Nat.le_of_ble_eq_true rfl, Nat.le_of_ble_eq_true rfl⟩) (zPS X hZ6 hS6 [.long (lI l2), .long (lI l4), .long (lI (F6 13 l1 4)), .long (lI (2 * (F6 13 l1 5)))]) rfl rfl hl.1 rfl (lv_room (Nat.le_of_ble_eq_true rfl)) (D_184 W_prog_15_method_79_code_32 22 rfl rfl rfl) ⟨Nat.le_of_ble_eq_true rfl, Nat.le_of_ble_eq_true rfl⟩) hS6 (fun q _ h => zAin X hS6 q h) (zAin X hS6) (fun p13 u13 t13 H13 locs13 ht13 hv13 hw13 hB13 hz13 hk13 hS13 => ?_)
        have hZ13 := zBack X ht13 hB13
        subst hw13
        obtain ⟨g14, hf⟩ := gif hf
        refine z0ne (tgt := 63) hx hb g14 (D_154 W_prog_15_method_79_code_32 25 rfl rfl rfl) (by decide) (fun h15 => ?_) (fun h15 => ?_)
        · replace hf := gneg hf h15
          exact b_M_strength_63 X hf hZ13 hS13 (lv_sub hl [1, 2, 3] rfl)
        · replace hf := gpos hf h15
          refine lv_bipush (v := iI 8) hx hb (D_16 W_prog_15_method_79_code_32 28 rfl rfl rfl) (by decide) ?_
          cases hf
          exact W.iret hx hb hr (fun t ht hW => ⟨⟨_, (), rfl, rfl, by rw [ht]; exact hZ13, va_K.moved hW.alike hK⟩, hS13.F ht⟩) hS13.2.2 (D_172 W_prog_15_method_79_code_32 30 rfl rfl) hlk
    · replace hf := gpos hf h8
      exact b_M_strength_25 X hf hZ6 hS6 (lv_sub hl [] rfl)

abbrev Q_M_mixed (D : va_G) (ca : Nat → ClassId) (ad : Nat → Int → Nat → Nat) (L : List Nat) (r : Int) (F : zF) (B : zB) (A : Nat → Prop) : Array Value → State → Outcome → State → Prop := va_Qi (S := Unit) (fun p _ => p = iI r) (fun _ => zPo D ca ad lnM nM L F B A) A
def f_M_mixed_149 (rec5 : Int → Int → Int → Int → zF → zB → zO) (K : Nat) (l4 : Int) (l3 : Int) (l1 : Int) (l2 : Int) (F : zF) (B : zB) : zO := rec5 (l4 + 1) l3 l1 l2 F B
set_option maxHeartbeats 4000000 in
set_option maxRecDepth 100000 in
theorem b_M_mixed_149 {D : va_G} {ca : Nat → ClassId} {ad : Nat → Int → Nat → Nat} {L : List Nat} {aS vS : Nat → Nat} {A : Nat → Prop} {p : Program} {l : Launch} {e : Env} {s : State} {m : MethodId} {args : Array Value} {below : List Frame} {meth : Method} {c : Code} {K : Nat} {r : Int} {F9 : zF} {B9 : zB} (X : zX D ca L aS vS A p s m args meth c prog_15_method_167_code 10 (Option.some Jvm.ClassFile.FieldType.int) "StaveHouseModel") {rec5 : Int → Int → Int → Int → zF → zB → zO} (hrec5 : ∀ {l4 : Int} {l3 : Int} {l1 : Int} {l2 : Int} {F : zF} {B : zB} {H : Heap} {locs : List Loc} {ls : Array Slot}, rec5 l4 l3 l1 l2 F B = some (r, F9, B9) → zH D ca ad lnM nM L F B A H → va_S A s.heap H locs → lv_has ls 10 [(4, .int (iI l4)), (3, .int (iI l3)), (0, .ref (ad 14 0 0)), (1, .ref (ad 13 l1 0)), (2, .int (iI l2))] → W p l e ({ frames := 2, cells := 0, slots := 0, locals := 44 } : Room) s m args below meth c H locs 0 0 (MQ below (Q_M_mixed D ca ad L r F9 B9 A) args s 0 0 A) (F0 m 5 ls [])) {l4 : Int} {l3 : Int} {l1 : Int} {l2 : Int} {F : zF} {B : zB} {H : Heap} {locs : List Loc} {ls : Array Slot} (hf : f_M_mixed_149 rec5 K l4 l3 l1 l2 F B = some (r, F9, B9)) (hZ : zH D ca ad lnM nM L F B A H) (hS : va_S A s.heap H locs) (hl : lv_has ls 10 [(4, .int (iI l4)), (3, .int (iI l3)), (0, .ref (ad 14 0 0)), (1, .ref (ad 13 l1 0)), (2, .int (iI l2))]) : W p l e ({ frames := 2, cells := 0, slots := 0, locals := 44 } : Room) s m args below meth c H locs 0 0 (MQ below (Q_M_mixed D ca ad L r F9 B9 A) args s 0 0 A) (F0 m 149 ls []) := by
  obtain ⟨hx, hb, hr, hml, hown, hts, hlk, hK, hA, hL, hX⟩ := id X
  replace hf : (rec5 (l4 + 1) l3 l1 l2 F B) = some (r, F9, B9) := hf
  refine lv_iinc (v := iI (l4 + 1)) (lv' := [(4, .int (iI (l4 + 1))), (3, .int (iI l3)), (0, .ref (ad 14 0 0)), (1, .ref (ad 13 l1 0)), (2, .int (iI l2))]) hx hb d_15_167_149 hl (k := 0) rfl (iI_add _ 1) (by decide) rfl (fun ls hl => ?_)
  refine lv_goto (tgt := 5) hx hb (D_167 W_prog_15_method_167_code_128 24 rfl rfl rfl) (by decide) ?_
  exact hrec5 hf hZ hS (lv_sub hl [0, 1, 2, 3, 4] rfl)

def f_M_mixed_5 (K : Nat) : Nat → Int → Int → Int → Int → zF → zB → zO
  | 0, _, _, _, _, _, _ => none
  | n + 1, l4, l3, l1, l2, F, B => if 0 ≤ l1 ∧ l1 < 3 then if r32 l4 then if r32 (F 13 l1 54) then (if (F 13 l1 54) ≤ l4 then zbind (f_M_held K l3 (-32768) 32767 F B) (fun r5 F5 B5 => some (r5, F5, B5)) else if 0 ≤ l4 ∧ l4 < 2000 then if r32 (B 13 l1 55 l4) then if r32 (F 13 l1 6) then if ¬ lI (F 13 l1 6) = 0 then if r32 (zldv ((B 13 l1 55 l4) * 5000) (F 13 l1 6)) then if r32 (B 13 l1 56 l4) then if r32 (zldv ((B 13 l1 56 l4) * 5000) (F 13 l1 6)) then if r32 l2 then (if l2 < (zldv ((B 13 l1 55 l4) * 5000) (F 13 l1 6)) then f_M_mixed_149 (f_M_mixed_5 K n) K l4 l3 l1 l2 F B else if r32 ((zldv ((B 13 l1 56 l4) * 5000) (F 13 l1 6)) + 399) then (if l2 ≤ ((zldv ((B 13 l1 56 l4) * 5000) (F 13 l1 6)) + 399) then if r32 (l2 - (zldv ((B 13 l1 55 l4) * 5000) (F 13 l1 6))) then zbind (f_M_turn K (B 13 l1 57 l4) F B) (fun r18 F18 B18 => if 0 ≤ (B18 13 l1 59 l4) ∧ (B18 13 l1 59 l4) < 4 then if r32 (zlshr (zland ((l2 - (zldv ((B 13 l1 55 l4) * 5000) (F 13 l1 6))) * r18) 4294967295) 24) then zbind (f_M_wave K (B18 13 l1 9 (B18 13 l1 59 l4)) (zlshr (zland ((l2 - (zldv ((B 13 l1 55 l4) * 5000) (F 13 l1 6))) * r18) 4294967295) 24) F18 B18) (fun r21 F21 B21 => zbind (f_M_level K (l2 - (zldv ((B 13 l1 55 l4) * 5000) (F 13 l1 6))) ((zldv ((B 13 l1 56 l4) * 5000) (F 13 l1 6)) - (zldv ((B 13 l1 55 l4) * 5000) (F 13 l1 6))) F21 B21) (fun r22 F22 B22 => f_M_mixed_149 (f_M_mixed_5 K n) K l4 (l3 + (zdv ((r21 * r22) * (B22 13 l1 58 l4)) 1024)) l1 l2 F22 B22)) else none else none) else none else f_M_mixed_149 (f_M_mixed_5 K n) K l4 l3 l1 l2 F B) else none) else none else none else none else none else none else none else none else none) else none else none else none
set_option maxHeartbeats 4000000 in
set_option maxRecDepth 100000 in
theorem b_M_mixed_5 {D : va_G} {ca : Nat → ClassId} {ad : Nat → Int → Nat → Nat} {L : List Nat} {aS vS : Nat → Nat} {A : Nat → Prop} {p : Program} {l : Launch} {e : Env} {s : State} {m : MethodId} {args : Array Value} {below : List Frame} {meth : Method} {c : Code} {K : Nat} {r : Int} {F9 : zF} {B9 : zB} (X : zX D ca L aS vS A p s m args meth c prog_15_method_167_code 10 (Option.some Jvm.ClassFile.FieldType.int) "StaveHouseModel") : ∀ {n : Nat} {l4 : Int} {l3 : Int} {l1 : Int} {l2 : Int} {F : zF} {B : zB} {H : Heap} {locs : List Loc} {ls : Array Slot}, f_M_mixed_5 K n l4 l3 l1 l2 F B = some (r, F9, B9) → zH D ca ad lnM nM L F B A H → va_S A s.heap H locs → lv_has ls 10 [(4, .int (iI l4)), (3, .int (iI l3)), (0, .ref (ad 14 0 0)), (1, .ref (ad 13 l1 0)), (2, .int (iI l2))] → W p l e ({ frames := 2, cells := 0, slots := 0, locals := 44 } : Room) s m args below meth c H locs 0 0 (MQ below (Q_M_mixed D ca ad L r F9 B9 A) args s 0 0 A) (F0 m 5 ls []) := by
  obtain ⟨hx, hb, hr, hml, hown, hts, hlk, hK, hA, hL, hX⟩ := id X
  intro n
  induction n with
  | zero =>
    intros
    rename_i hf _ _ _
    cases hf
  | succ n ih =>
    intro l4 l3 l1 l2 F B H locs ls hf hZ hS hl
    replace hf : (if 0 ≤ l1 ∧ l1 < 3 then if r32 l4 then if r32 (F 13 l1 54) then (if (F 13 l1 54) ≤ l4 then zbind (f_M_held K l3 (-32768) 32767 F B) (fun r5 F5 B5 => some (r5, F5, B5)) else if 0 ≤ l4 ∧ l4 < 2000 then if r32 (B 13 l1 55 l4) then if r32 (F 13 l1 6) then if ¬ lI (F 13 l1 6) = 0 then if r32 (zldv ((B 13 l1 55 l4) * 5000) (F 13 l1 6)) then if r32 (B 13 l1 56 l4) then if r32 (zldv ((B 13 l1 56 l4) * 5000) (F 13 l1 6)) then if r32 l2 then (if l2 < (zldv ((B 13 l1 55 l4) * 5000) (F 13 l1 6)) then f_M_mixed_149 (f_M_mixed_5 K n) K l4 l3 l1 l2 F B else if r32 ((zldv ((B 13 l1 56 l4) * 5000) (F 13 l1 6)) + 399) then (if l2 ≤ ((zldv ((B 13 l1 56 l4) * 5000) (F 13 l1 6)) + 399) then if r32 (l2 - (zldv ((B 13 l1 55 l4) * 5000) (F 13 l1 6))) then zbind (f_M_turn K (B 13 l1 57 l4) F B) (fun r18 F18 B18 => if 0 ≤ (B18 13 l1 59 l4) ∧ (B18 13 l1 59 l4) < 4 then if r32 (zlshr (zland ((l2 - (zldv ((B 13 l1 55 l4) * 5000) (F 13 l1 6))) * r18) 4294967295) 24) then zbind (f_M_wave K (B18 13 l1 9 (B18 13 l1 59 l4)) (zlshr (zland ((l2 - (zldv ((B 13 l1 55 l4) * 5000) (F 13 l1 6))) * r18) 4294967295) 24) F18 B18) (fun r21 F21 B21 => zbind (f_M_level K (l2 - (zldv ((B 13 l1 55 l4) * 5000) (F 13 l1 6))) ((zldv ((B 13 l1 56 l4) * 5000) (F 13 l1 6)) - (zldv ((B 13 l1 55 l4) * 5000) (F 13 l1 6))) F21 B21) (fun r22 F22 B22 => f_M_mixed_149 (f_M_mixed_5 K n) K l4 (l3 + (zdv ((r21 * r22) * (B22 13 l1 58 l4)) 1024)) l1 l2 F22 B22)) else none else none) else none else f_M_mixed_149 (f_M_mixed_5 K n) K l4 l3 l1 l2 F B) else none) else none else none else none else none else none else none else none else none) else none else none else none) = some (r, F9, B9) := hf
    refine lv_iload hx hb (D_21 W_prog_15_method_167_code_0 5 rfl rfl) (lv_at hl 0 rfl) ?_
    refine lv_aload_n hx hb (D_43 W_prog_15_method_167_code_0 7 rfl rfl) rfl (lv_at hl 3 rfl) ?_
    obtain ⟨g1, hf⟩ := gif hf
    refine zget (ci := 13) (C := RX13) (T := TX13) (v := .int (iI (F 13 l1 54))) (k := 54) hx hb hts inW_13 hown hK hZ g1.1 g1.2 rfl (by decide) k_9_222 rfl (D_180 W_prog_15_method_167_code_0 8 rfl rfl rfl) ?_
    obtain ⟨g2, hf⟩ := gif hf
    obtain ⟨g3, hf⟩ := gif hf
    refine zge (tgt := 155) hx hb g2 g3 (D_162 W_prog_15_method_167_code_0 11 rfl rfl rfl) (by decide) (fun h4 => ?_) (fun h4 => ?_)
    · replace hf := gpos hf h4
      refine lv_iload_n hx hb (D_29 W_prog_15_method_167_code_128 27 rfl rfl) rfl (lv_at hl 1 rfl) ?_
      refine lv_sipush (v := iI (-32768)) hx hb (D_17 W_prog_15_method_167_code_128 28 rfl rfl rfl) (by decide) ?_
      refine lv_sipush (v := iI 32767) hx hb (D_17 W_prog_15_method_167_code_128 31 rfl rfl rfl) (by decide) ?_
      obtain ⟨r5, F5, B5, hc5, hf⟩ := gbind hf
      refine va_calli (va_runS (As := [.int (iI l3), .int (iI (-32768)), .int (iI 32767)]) (rest := []) ⟨hx, hb, hml, hown, hts⟩ (c_M_held (l := l) hc5) (va_cwS 3 hts (gdS k_14_1 k_14_2 k_1_9 k_14_3) rfl rfl rfl (by decide +kernel) ⟨Nat.le_of_ble_eq_true rfl, Nat.le_of_ble_eq_true rfl⟩) (zPS X hZ hS [.int (iI l3), .int (iI (-32768)), .int (iI 32767)]) rfl rfl hl.1 rfl (lv_room (Nat.le_of_ble_eq_true rfl)) (D_184 W_prog_15_method_167_code_160 2 rfl rfl rfl) ⟨Nat.le_of_ble_eq_true rfl, Nat.le_of_ble_eq_true rfl⟩) hS (fun q _ h => zAin X hS q h) (zAin X hS) (fun p5 u5 t5 H5 locs5 ht5 hv5 hw5 hB5 hz5 hk5 hS5 => ?_)
      have hZ5 := zBack X ht5 hB5
      subst hw5
      cases hf
      exact W.iret hx hb hr (fun t ht hW => ⟨⟨_, (), rfl, rfl, by rw [ht]; exact hZ5, va_K.moved hW.alike hK⟩, hS5.F ht⟩) hS5.2.2 (D_172 W_prog_15_method_167_code_160 5 rfl rfl) hlk
    · replace hf := gneg hf h4
      refine lv_aload_n hx hb (D_43 W_prog_15_method_167_code_0 14 rfl rfl) rfl (lv_at hl 3 rfl) ?_
      refine zget (ci := 13) (C := RX13) (T := TX13) (v := .ref (ad 13 l1 (55 + 1))) (k := 55) hx hb hts inW_13 hown hK hZ g1.1 g1.2 rfl (by decide) k_9_224 rfl (D_180 W_prog_15_method_167_code_0 15 rfl rfl rfl) ?_
      refine lv_iload hx hb (D_21 W_prog_15_method_167_code_0 18 rfl rfl) (lv_at hl 0 rfl) ?_
      obtain ⟨g6, hf⟩ := gif hf
      refine zald (ci := 13) (k := 55) hx hb hK rfl hZ g1.1 g1.2 rfl (Nat.le_of_ble_eq_true rfl) g6.1 g6.2 (D_46 W_prog_15_method_167_code_0 20 rfl rfl) ?_
      obtain ⟨g7, hf⟩ := gif hf
      refine zi2l hx hb g7 (D_133 W_prog_15_method_167_code_0 21 rfl rfl) ?_
      refine lv_ldc2 hx hb hown (hts _ k_13_211) (D_20 W_prog_15_method_167_code_0 22 rfl rfl rfl) ?_
      refine W.eq (g2 := F0 m 25 ls [.long (lI 5000), .long (lI (B 13 l1 55 l4))]) rfl ?_
      refine zlmul hx hb (D_105 W_prog_15_method_167_code_0 25 rfl rfl) ?_
      refine lv_aload_n hx hb (D_43 W_prog_15_method_167_code_0 26 rfl rfl) rfl (lv_at hl 3 rfl) ?_
      refine zget (ci := 13) (C := RX13) (T := TX13) (v := .int (iI (F 13 l1 6))) (k := 6) hx hb hts inW_13 hown hK hZ g1.1 g1.2 rfl (by decide) k_9_131 rfl (D_180 W_prog_15_method_167_code_0 27 rfl rfl rfl) ?_
      obtain ⟨g8, hf⟩ := gif hf
      refine zi2l hx hb g8 (D_133 W_prog_15_method_167_code_0 30 rfl rfl) ?_
      obtain ⟨g9, hf⟩ := gif hf
      refine zldv_r hx hb g9 (D_109 W_prog_15_method_167_code_0 31 rfl rfl) ?_
      obtain ⟨g10, hf⟩ := gif hf
      refine zl2i hx hb g10 (D_136 W_prog_15_method_167_code_32 0 rfl rfl) ?_
      refine lv_istore (lv' := [(5, .int (iI (zldv ((B 13 l1 55 l4) * 5000) (F 13 l1 6)))), (4, .int (iI l4)), (3, .int (iI l3)), (0, .ref (ad 14 0 0)), (1, .ref (ad 13 l1 0)), (2, .int (iI l2))]) hx hb (D_54 W_prog_15_method_167_code_32 1 rfl rfl) hl (by decide) rfl (fun ls hl => ?_)
      refine lv_aload_n hx hb (D_43 W_prog_15_method_167_code_32 3 rfl rfl) rfl (lv_at hl 4 rfl) ?_
      refine zget (ci := 13) (C := RX13) (T := TX13) (v := .ref (ad 13 l1 (56 + 1))) (k := 56) hx hb hts inW_13 hown hK hZ g1.1 g1.2 rfl (by decide) k_9_226 rfl (D_180 W_prog_15_method_167_code_32 4 rfl rfl rfl) ?_
      refine lv_iload hx hb (D_21 W_prog_15_method_167_code_32 7 rfl rfl) (lv_at hl 1 rfl) ?_
      refine zald (ci := 13) (k := 56) hx hb hK rfl hZ g1.1 g1.2 rfl (Nat.le_of_ble_eq_true rfl) g6.1 g6.2 (D_46 W_prog_15_method_167_code_32 9 rfl rfl) ?_
      obtain ⟨g11, hf⟩ := gif hf
      refine zi2l hx hb g11 (D_133 W_prog_15_method_167_code_32 10 rfl rfl) ?_
      refine lv_ldc2 hx hb hown (hts _ k_13_211) (D_20 W_prog_15_method_167_code_32 11 rfl rfl rfl) ?_
      refine W.eq (g2 := F0 m 46 ls [.long (lI 5000), .long (lI (B 13 l1 56 l4))]) rfl ?_
      refine zlmul hx hb (D_105 W_prog_15_method_167_code_32 14 rfl rfl) ?_
      refine lv_aload_n hx hb (D_43 W_prog_15_method_167_code_32 15 rfl rfl) rfl (lv_at hl 4 rfl) ?_
      refine zget (ci := 13) (C := RX13) (T := TX13) (v := .int (iI (F 13 l1 6))) (k := 6) hx hb hts inW_13 hown hK hZ g1.1 g1.2 rfl (by decide) k_9_131 rfl (D_180 W_prog_15_method_167_code_32 16 rfl rfl rfl) ?_
      refine zi2l hx hb g8 (D_133 W_prog_15_method_167_code_32 19 rfl rfl) ?_
      refine zldv_r hx hb g9 (D_109 W_prog_15_method_167_code_32 20 rfl rfl) ?_
      obtain ⟨g12, hf⟩ := gif hf
      refine zl2i hx hb g12 (D_136 W_prog_15_method_167_code_32 21 rfl rfl) ?_
      refine lv_istore (lv' := [(6, .int (iI (zldv ((B 13 l1 56 l4) * 5000) (F 13 l1 6)))), (5, .int (iI (zldv ((B 13 l1 55 l4) * 5000) (F 13 l1 6)))), (4, .int (iI l4)), (3, .int (iI l3)), (0, .ref (ad 14 0 0)), (1, .ref (ad 13 l1 0)), (2, .int (iI l2))]) hx hb (D_54 W_prog_15_method_167_code_32 22 rfl rfl) hl (by decide) rfl (fun ls hl => ?_)
      refine lv_iload_n hx hb (D_28 W_prog_15_method_167_code_32 24 rfl rfl) rfl (lv_at hl 6 rfl) ?_
      refine lv_iload hx hb (D_21 W_prog_15_method_167_code_32 25 rfl rfl) (lv_at hl 1 rfl) ?_
      obtain ⟨g13, hf⟩ := gif hf
      refine zlt (tgt := 149) hx hb g13 g10 (D_161 W_prog_15_method_167_code_32 27 rfl rfl rfl) (by decide) (fun h14 => ?_) (fun h14 => ?_)
      · replace hf := gpos hf h14
        exact b_M_mixed_149 X ih hf hZ hS (lv_sub hl [2, 3, 4, 5, 6] rfl)
      · replace hf := gneg hf h14
        refine lv_iload_n hx hb (D_28 W_prog_15_method_167_code_32 30 rfl rfl) rfl (lv_at hl 6 rfl) ?_
        refine lv_iload hx hb (D_21 W_prog_15_method_167_code_32 31 rfl rfl) (lv_at hl 0 rfl) ?_
        refine lv_sipush (v := iI 399) hx hb (D_17 W_prog_15_method_167_code_64 1 rfl rfl rfl) (by decide) ?_
        refine zadd hx hb (D_96 W_prog_15_method_167_code_64 4 rfl rfl) ?_
        obtain ⟨g15, hf⟩ := gif hf
        refine zle (tgt := 75) hx hb g13 g15 (D_164 W_prog_15_method_167_code_64 5 rfl rfl rfl) (by decide) (fun h16 => ?_) (fun h16 => ?_)
        · replace hf := gpos hf h16
          refine lv_iload_n hx hb (D_28 W_prog_15_method_167_code_64 11 rfl rfl) rfl (lv_at hl 6 rfl) ?_
          refine lv_iload hx hb (D_21 W_prog_15_method_167_code_64 12 rfl rfl) (lv_at hl 1 rfl) ?_
          refine zsub hx hb (D_100 W_prog_15_method_167_code_64 14 rfl rfl) ?_
          refine lv_istore (lv' := [(7, .int (iI (l2 - (zldv ((B 13 l1 55 l4) * 5000) (F 13 l1 6))))), (6, .int (iI (zldv ((B 13 l1 56 l4) * 5000) (F 13 l1 6)))), (5, .int (iI (zldv ((B 13 l1 55 l4) * 5000) (F 13 l1 6)))), (4, .int (iI l4)), (3, .int (iI l3)), (0, .ref (ad 14 0 0)), (1, .ref (ad 13 l1 0)), (2, .int (iI l2))]) hx hb (D_54 W_prog_15_method_167_code_64 15 rfl rfl) hl (by decide) rfl (fun ls hl => ?_)
          refine lv_iload hx hb (D_21 W_prog_15_method_167_code_64 17 rfl rfl) (lv_at hl 0 rfl) ?_
          obtain ⟨g17, hf⟩ := gif hf
          refine zi2l hx hb g17 (D_133 W_prog_15_method_167_code_64 19 rfl rfl) ?_
          refine lv_aload_n hx hb (D_42 W_prog_15_method_167_code_64 20 rfl rfl) rfl (lv_at hl 5 rfl) ?_
          refine lv_aload_n hx hb (D_43 W_prog_15_method_167_code_64 21 rfl rfl) rfl (lv_at hl 6 rfl) ?_
          refine zget (ci := 13) (C := RX13) (T := TX13) (v := .ref (ad 13 l1 (57 + 1))) (k := 57) hx hb hts inW_13 hown hK hZ g1.1 g1.2 rfl (by decide) k_9_228 rfl (D_180 W_prog_15_method_167_code_64 22 rfl rfl rfl) ?_
          refine lv_iload hx hb (D_21 W_prog_15_method_167_code_64 25 rfl rfl) (lv_at hl 3 rfl) ?_
          refine zald (ci := 13) (k := 57) hx hb hK rfl hZ g1.1 g1.2 rfl (Nat.le_of_ble_eq_true rfl) g6.1 g6.2 (D_46 W_prog_15_method_167_code_64 27 rfl rfl) ?_
          obtain ⟨r18, F18, B18, hc18, hf⟩ := gbind hf
          refine va_calll (va_runV (As := [.int (iI (B 13 l1 57 l4))]) (rest := [.long (lI (l2 - (zldv ((B 13 l1 55 l4) * 5000) (F 13 l1 6))))]) ⟨hx, hb, hml, hown, hts⟩ (c_M_turn (l := l) hc18) (cwV 1 hts (gdV k_13_212 k_13_214 ks_186 k_1_9 k_13_215) rfl rfl rfl (by decide +kernel) ⟨Nat.le_of_ble_eq_true rfl, Nat.le_of_ble_eq_true rfl⟩) (zPV X hZ hS (ci := 14) (by decide) (by decide) (r := (RX14, TX14, 107)) rfl [.int (iI (B 13 l1 57 l4))]) rfl rfl hl.1 rfl (lv_room (Nat.le_of_ble_eq_true rfl)) (D_182 W_prog_15_method_167_code_64 28 rfl rfl rfl) ⟨Nat.le_of_ble_eq_true rfl, Nat.le_of_ble_eq_true rfl⟩) hS (fun q _ h => zAin X hS q h) (zAin X hS) (fun p18 u18 t18 H18 locs18 ht18 hv18 hw18 hB18 hz18 hk18 hS18 => ?_)
          have hZ18 := zBack X ht18 hB18
          subst hw18
          refine zlmul hx hb (D_105 W_prog_15_method_167_code_64 31 rfl rfl) ?_
          refine lv_ldc2 hx hb hown (hts _ k_13_231) (D_20 W_prog_15_method_167_code_96 0 rfl rfl rfl) ?_
          refine W.eq (g2 := F0 m 99 ls [.long (lI 4294967295), .long (lI ((l2 - (zldv ((B 13 l1 55 l4) * 5000) (F 13 l1 6))) * r18))]) rfl ?_
          refine zland_r hx hb (D_127 W_prog_15_method_167_code_96 3 rfl rfl) ?_
          refine lv_lstore (lv' := [(8, .long (lI (zland ((l2 - (zldv ((B 13 l1 55 l4) * 5000) (F 13 l1 6))) * r18) 4294967295))), (7, .int (iI (l2 - (zldv ((B 13 l1 55 l4) * 5000) (F 13 l1 6))))), (6, .int (iI (zldv ((B 13 l1 56 l4) * 5000) (F 13 l1 6)))), (5, .int (iI (zldv ((B 13 l1 55 l4) * 5000) (F 13 l1 6)))), (4, .int (iI l4)), (3, .int (iI l3)), (0, .ref (ad 14 0 0)), (1, .ref (ad 13 l1 0)), (2, .int (iI l2))]) hx hb (D_55 W_prog_15_method_167_code_96 4 rfl rfl) hl (by decide) rfl (fun ls hl => ?_)
          refine lv_iload_n hx hb (D_29 W_prog_15_method_167_code_96 6 rfl rfl) rfl (lv_at hl 5 rfl) ?_
          refine lv_aload_n hx hb (D_43 W_prog_15_method_167_code_96 7 rfl rfl) rfl (lv_at hl 7 rfl) ?_
          refine zget (ci := 13) (C := RX13) (T := TX13) (v := .ref (ad 13 l1 (9 + 1))) (k := 9) hx hb hts inW_13 hown hK hZ18 g1.1 g1.2 rfl (by decide) k_9_136 rfl (D_180 W_prog_15_method_167_code_96 8 rfl rfl rfl) ?_
          refine lv_aload_n hx hb (D_43 W_prog_15_method_167_code_96 11 rfl rfl) rfl (lv_at hl 7 rfl) ?_
          refine zget (ci := 13) (C := RX13) (T := TX13) (v := .ref (ad 13 l1 (59 + 1))) (k := 59) hx hb hts inW_13 hown hK hZ18 g1.1 g1.2 rfl (by decide) k_9_232 rfl (D_180 W_prog_15_method_167_code_96 12 rfl rfl rfl) ?_
          refine lv_iload hx hb (D_21 W_prog_15_method_167_code_96 15 rfl rfl) (lv_at hl 4 rfl) ?_
          refine zald (ci := 13) (k := 59) hx hb hK rfl hZ18 g1.1 g1.2 rfl (Nat.le_of_ble_eq_true rfl) g6.1 g6.2 (D_46 W_prog_15_method_167_code_96 17 rfl rfl) ?_
          obtain ⟨g19, hf⟩ := gif hf
          refine zald (ci := 13) (k := 9) hx hb hK rfl hZ18 g1.1 g1.2 rfl (Nat.le_of_ble_eq_true rfl) g19.1 g19.2 (D_46 W_prog_15_method_167_code_96 18 rfl rfl) ?_
          refine lv_lload hx hb (D_22 W_prog_15_method_167_code_96 19 rfl rfl) (lv_at hl 0 rfl) ?_
          refine lv_bipush (v := iI 24) hx hb (D_16 W_prog_15_method_167_code_96 21 rfl rfl rfl) (by decide) ?_
          refine zlshr_r hx hb (D_123 W_prog_15_method_167_code_96 23 rfl rfl) ?_
          obtain ⟨g20, hf⟩ := gif hf
          refine zl2i hx hb g20 (D_136 W_prog_15_method_167_code_96 24 rfl rfl) ?_
          obtain ⟨r21, F21, B21, hc21, hf⟩ := gbind hf
          refine va_calli (va_runS (As := [.int (iI (B18 13 l1 9 (B18 13 l1 59 l4))), .int (iI (zlshr (zland ((l2 - (zldv ((B 13 l1 55 l4) * 5000) (F 13 l1 6))) * r18) 4294967295) 24))]) (rest := [.int (iI l3)]) ⟨hx, hb, hml, hown, hts⟩ (c_M_wave (l := l) hc21) (va_cwS 2 hts (gdS k_13_232 k_13_233 k_1_9 k_13_234) rfl rfl rfl (by decide +kernel) ⟨Nat.le_of_ble_eq_true rfl, Nat.le_of_ble_eq_true rfl⟩) (zPS X hZ18 hS18 [.int (iI (B18 13 l1 9 (B18 13 l1 59 l4))), .int (iI (zlshr (zland ((l2 - (zldv ((B 13 l1 55 l4) * 5000) (F 13 l1 6))) * r18) 4294967295) 24))]) rfl rfl hl.1 rfl (lv_room (Nat.le_of_ble_eq_true rfl)) (D_184 W_prog_15_method_167_code_96 25 rfl rfl rfl) ⟨Nat.le_of_ble_eq_true rfl, Nat.le_of_ble_eq_true rfl⟩) hS18 (fun q _ h => zAin X hS18 q h) (zAin X hS18) (fun p21 u21 t21 H21 locs21 ht21 hv21 hw21 hB21 hz21 hk21 hS21 => ?_)
          have hZ21 := zBack X ht21 hB21
          subst hw21
          refine lv_iload hx hb (D_21 W_prog_15_method_167_code_96 28 rfl rfl) (lv_at hl 1 rfl) ?_
          refine lv_iload hx hb (D_21 W_prog_15_method_167_code_96 30 rfl rfl) (lv_at hl 2 rfl) ?_
          refine lv_iload hx hb (D_21 W_prog_15_method_167_code_128 0 rfl rfl) (lv_at hl 3 rfl) ?_
          refine zsub hx hb (D_100 W_prog_15_method_167_code_128 2 rfl rfl) ?_
          obtain ⟨r22, F22, B22, hc22, hf⟩ := gbind hf
          refine va_calli (va_runS (As := [.int (iI (l2 - (zldv ((B 13 l1 55 l4) * 5000) (F 13 l1 6)))), .int (iI ((zldv ((B 13 l1 56 l4) * 5000) (F 13 l1 6)) - (zldv ((B 13 l1 55 l4) * 5000) (F 13 l1 6))))]) (rest := [.int (iI r21), .int (iI l3)]) ⟨hx, hb, hml, hown, hts⟩ (c_M_level (l := l) hc22) (va_cwS 2 hts (gdS k_13_235 k_13_236 k_1_9 k_13_237) rfl rfl rfl (by decide +kernel) ⟨Nat.le_of_ble_eq_true rfl, Nat.le_of_ble_eq_true rfl⟩) (zPS X hZ21 hS21 [.int (iI (l2 - (zldv ((B 13 l1 55 l4) * 5000) (F 13 l1 6)))), .int (iI ((zldv ((B 13 l1 56 l4) * 5000) (F 13 l1 6)) - (zldv ((B 13 l1 55 l4) * 5000) (F 13 l1 6))))]) rfl rfl hl.1 rfl (lv_room (Nat.le_of_ble_eq_true rfl)) (D_184 W_prog_15_method_167_code_128 3 rfl rfl rfl) ⟨Nat.le_of_ble_eq_true rfl, Nat.le_of_ble_eq_true rfl⟩) hS21 (fun q _ h => zAin X hS21 q h) (zAin X hS21) (fun p22 u22 t22 H22 locs22 ht22 hv22 hw22 hB22 hz22 hk22 hS22 => ?_)
          have hZ22 := zBack X ht22 hB22
          subst hw22
          refine zmul hx hb (D_104 W_prog_15_method_167_code_128 6 rfl rfl) ?_
          refine lv_aload_n hx hb (D_43 W_prog_15_method_167_code_128 7 rfl rfl) rfl (lv_at hl 7 rfl) ?_
          refine zget (ci := 13) (C := RX13) (T := TX13) (v := .ref (ad 13 l1 (58 + 1))) (k := 58) hx hb hts inW_13 hown hK hZ22 g1.1 g1.2 rfl (by decide) k_9_230 rfl (D_180 W_prog_15_method_167_code_128 8 rfl rfl rfl) ?_
          refine lv_iload hx hb (D_21 W_prog_15_method_167_code_128 11 rfl rfl) (lv_at hl 4 rfl) ?_
          refine zald (ci := 13) (k := 58) hx hb hK rfl hZ22 g1.1 g1.2 rfl (Nat.le_of_ble_eq_true rfl) g6.1 g6.2 (D_46 W_prog_15_method_167_code_128 13 rfl rfl) ?_
          refine zmul hx hb (D_104 W_prog_15_method_167_code_128 14 rfl rfl) ?_
          refine lv_sipush (v := iI 1024) hx hb (D_17 W_prog_15_method_167_code_128 15 rfl rfl rfl) (by decide) ?_
          refine zdv_r hx hb (by decide) (D_108 W_prog_15_method_167_code_128 18 rfl rfl) ?_
          refine zadd hx hb (D_96 W_prog_15_method_167_code_128 19 rfl rfl) ?_
          refine lv_istore_n (lv' := [(3, .int (iI (l3 + (zdv ((r21 * r22) * (B22 13 l1 58 l4)) 1024)))), (8, .long (lI (zland ((l2 - (zldv ((B 13 l1 55 l4) * 5000) (F 13 l1 6))) * r18) 4294967295))), (7, .int (iI (l2 - (zldv ((B 13 l1 55 l4) * 5000) (F 13 l1 6))))), (6, .int (iI (zldv ((B 13 l1 56 l4) * 5000) (F 13 l1 6)))), (5, .int (iI (zldv ((B 13 l1 55 l4) * 5000) (F 13 l1 6)))), (4, .int (iI l4)), (0, .ref (ad 14 0 0)), (1, .ref (ad 13 l1 0)), (2, .int (iI l2))]) hx hb (D_62 W_prog_15_method_167_code_128 20 rfl rfl) rfl hl (by decide) rfl (fun ls hl => ?_)
          exact b_M_mixed_149 X ih hf hZ22 hS22 (lv_sub hl [5, 0, 6, 7, 8] rfl)
        · replace hf := gneg hf h16
          refine lv_goto (tgt := 149) hx hb (D_167 W_prog_15_method_167_code_64 8 rfl rfl rfl) (by decide) ?_
          exact b_M_mixed_149 X ih hf hZ hS (lv_sub hl [2, 3, 4, 5, 6] rfl)

def f_M_mixed (K : Nat) (l1 : Int) (l2 : Int) (F : zF) (B : zB) : zO := f_M_mixed_5 K K 0 0 l1 l2 F B
set_option maxHeartbeats 4000000 in
set_option maxRecDepth 100000 in
theorem c_M_mixed {l : Launch} {D : va_G} {ca : Nat → ClassId} {ad : Nat → Int → Nat → Nat} {L : List Nat} {aS vS : Nat → Nat} {sz K : Nat}  {l1 : Int} {l2 : Int} {F F9 : zF} {B B9 : zB} {r : Int} (hf : f_M_mixed K l1 l2 F B = some (r, F9, B9)) : Met l ({ cls := "StaveHouseModel", name := "mixed", desc := "(LStaveHouseModel$Piece;I)I" } : Jvm.MethodName) (Cond.code ({ cls := "StaveHouseModel", name := "mixed", desc := "(LStaveHouseModel$Piece;I)I" } : Jvm.MethodName) prog_15_method_167_code 10 (Option.some Jvm.ClassFile.FieldType.int) :: wAll) ({ frames := 2, cells := 0, slots := 0, locals := 44 } : Room) (va_Pc [.ref (ad 14 0 0), .ref (ad 13 l1 0), .int (iI l2)] (zPre D ca ad lnM nM L aS vS F B sz)) (Q_M_mixed D ca ad L r F9 B9 (zA L sz)) 0 0 (zA L sz) := by
  refine zMet (Qc := Q_M_mixed D ca ad L r F9 B9) (lv := [(0, .ref (ad 14 0 0)), (1, .ref (ad 13 l1 0)), (2, .int (iI l2))]) (by decide) (Nat.le_of_ble_eq_true rfl) rfl (fun A p e s m below meth c ls X hZ hS hl => ?_)
  obtain ⟨hx, hb, hr, hml, hown, hts, hlk, hK, hA, hL, hX⟩ := id X
  replace hf : (f_M_mixed_5 K K 0 0 l1 l2 F B) = some (r, F9, B9) := hf
  refine lv_iconst (v := iI 0) hx hb (D_3 W_prog_15_method_167_code_0 0 rfl rfl) rfl ?_
  refine lv_istore_n (lv' := [(3, .int (iI 0)), (0, .ref (ad 14 0 0)), (1, .ref (ad 13 l1 0)), (2, .int (iI l2))]) hx hb (D_62 W_prog_15_method_167_code_0 1 rfl rfl) rfl hl (by decide) rfl (fun ls hl => ?_)
  refine lv_iconst (v := iI 0) hx hb (D_3 W_prog_15_method_167_code_0 2 rfl rfl) rfl ?_
  refine lv_istore (lv' := [(4, .int (iI 0)), (3, .int (iI 0)), (0, .ref (ad 14 0 0)), (1, .ref (ad 13 l1 0)), (2, .int (iI l2))]) hx hb (D_54 W_prog_15_method_167_code_0 3 rfl rfl) hl (by decide) rfl (fun ls hl => ?_)
  exact b_M_mixed_5 X hf hZ hS (lv_sub hl [0, 1, 2, 3, 4] rfl)

abbrev Q_M_kindOn (D : va_G) (ca : Nat → ClassId) (ad : Nat → Int → Nat → Nat) (L : List Nat) (r : Int) (F : zF) (B : zB) (A : Nat → Prop) : Array Value → State → Outcome → State → Prop := va_Qi (S := Unit) (fun p _ => p = iI r) (fun _ => zPo D ca ad lnM nM L F B A) A
def f_M_kindOn_146 (K : Nat) (s0 : Int) (F : zF) (B : zB) : zO := some (s0, F, B)
set_option maxHeartbeats 4000000 in
set_option maxRecDepth 100000 in
theorem b_M_kindOn_146 {D : va_G} {ca : Nat → ClassId} {ad : Nat → Int → Nat → Nat} {L : List Nat} {aS vS : Nat → Nat} {A : Nat → Prop} {p : Program} {l : Launch} {e : Env} {s : State} {m : MethodId} {args : Array Value} {below : List Frame} {meth : Method} {c : Code} {K : Nat} {r : Int} {F9 : zF} {B9 : zB} (X : zX D ca L aS vS A p s m args meth c prog_15_method_177_code 8 (Option.some Jvm.ClassFile.FieldType.int) "StaveHouseModel") {s0 : Int} {F : zF} {B : zB} {H : Heap} {locs : List Loc} {ls : Array Slot} (hf : f_M_kindOn_146 K s0 F B = some (r, F9, B9)) (hZ : zH D ca ad lnM nM L F B A H) (hS : va_S A s.heap H locs) (hl : lv_has ls 8 []) : W p l e ({ frames := 3, cells := 0, slots := 0, locals := 65 } : Room) s m args below meth c H locs 0 0 (MQ below (Q_M_kindOn D ca ad L r F9 B9 A) args s 0 0 A) (F0 m 146 ls [.int (iI s0)]) := by
  obtain ⟨hx, hb, hr, hml, hown, hts, hlk, hK, hA, hL, hX⟩ := id X
  replace hf : (some (s0, F, B)) = some (r, F9, B9) := hf
  cases hf
  exact W.iret hx hb hr (fun t ht hW => ⟨⟨_, (), rfl, rfl, by rw [ht]; exact hZ, va_K.moved hW.alike hK⟩, hS.F ht⟩) hS.2.2 (D_172 W_prog_15_method_177_code_128 18 rfl rfl) hlk

def f_M_kindOn_111 (rec10 : Int → Int → Int → Int → Int → zF → zB → zO) (K : Nat) (l2 : Int) (l5 : Int) (l4 : Int) (l3 : Int) (l1 : Int) (F : zF) (B : zB) : zO := rec10 (l5 + 1) l4 l3 l2 l1 F B
set_option maxHeartbeats 4000000 in
set_option maxRecDepth 100000 in
theorem b_M_kindOn_111 {D : va_G} {ca : Nat → ClassId} {ad : Nat → Int → Nat → Nat} {L : List Nat} {aS vS : Nat → Nat} {A : Nat → Prop} {p : Program} {l : Launch} {e : Env} {s : State} {m : MethodId} {args : Array Value} {below : List Frame} {meth : Method} {c : Code} {K : Nat} {r : Int} {F9 : zF} {B9 : zB} (X : zX D ca L aS vS A p s m args meth c prog_15_method_177_code 8 (Option.some Jvm.ClassFile.FieldType.int) "StaveHouseModel") {rec10 : Int → Int → Int → Int → Int → zF → zB → zO} (hrec10 : ∀ {l5 : Int} {l4 : Int} {l3 : Int} {l2 : Int} {l1 : Int} {F : zF} {B : zB} {H : Heap} {locs : List Loc} {ls : Array Slot}, rec10 l5 l4 l3 l2 l1 F B = some (r, F9, B9) → zH D ca ad lnM nM L F B A H → va_S A s.heap H locs → lv_has ls 8 [(5, .int (iI l5)), (4, .int (iI l4)), (3, .int (iI l3)), (2, .int (iI l2)), (0, .ref (ad 14 0 0)), (1, .int (iI l1))] → W p l e ({ frames := 3, cells := 0, slots := 0, locals := 65 } : Room) s m args below meth c H locs 0 0 (MQ below (Q_M_kindOn D ca ad L r F9 B9 A) args s 0 0 A) (F0 m 10 ls [])) {l2 : Int} {l5 : Int} {l4 : Int} {l3 : Int} {l1 : Int} {F : zF} {B : zB} {H : Heap} {locs : List Loc} {ls : Array Slot} (hf : f_M_kindOn_111 rec10 K l2 l5 l4 l3 l1 F B = some (r, F9, B9)) (hZ : zH D ca ad lnM nM L F B A H) (hS : va_S A s.heap H locs) (hl : lv_has ls 8 [(2, .int (iI l2)), (5, .int (iI l5)), (4, .int (iI l4)), (3, .int (iI l3)), (0, .ref (ad 14 0 0)), (1, .int (iI l1))]) : W p l e ({ frames := 3, cells := 0, slots := 0, locals := 65 } : Room) s m args below meth c H locs 0 0 (MQ below (Q_M_kindOn D ca ad L r F9 B9 A) args s 0 0 A) (F0 m 111 ls []) := by
  obtain ⟨hx, hb, hr, hml, hown, hts, hlk, hK, hA, hL, hX⟩ := id X
  replace hf : (rec10 (l5 + 1) l4 l3 l2 l1 F B) = some (r, F9, B9) := hf
  refine lv_iinc (v := iI (l5 + 1)) (lv' := [(5, .int (iI (l5 + 1))), (2, .int (iI l2)), (4, .int (iI l4)), (3, .int (iI l3)), (0, .ref (ad 14 0 0)), (1, .int (iI l1))]) hx hb d_15_177_111 hl (k := 1) rfl (iI_add _ 1) (by decide) rfl (fun ls hl => ?_)
  refine lv_goto (tgt := 10) hx hb (D_167 W_prog_15_method_177_code_96 18 rfl rfl rfl) (by decide) ?_
  exact hrec10 hf hZ hS (lv_sub hl [0, 2, 3, 1, 4, 5] rfl)

def f_M_kindOn_109 (K : Nat)  (F : zF) (B : zB) : zO := some ((-1), F, B)
set_option maxHeartbeats 4000000 in
set_option maxRecDepth 100000 in
theorem b_M_kindOn_109 {D : va_G} {ca : Nat → ClassId} {ad : Nat → Int → Nat → Nat} {L : List Nat} {aS vS : Nat → Nat} {A : Nat → Prop} {p : Program} {l : Launch} {e : Env} {s : State} {m : MethodId} {args : Array Value} {below : List Frame} {meth : Method} {c : Code} {K : Nat} {r : Int} {F9 : zF} {B9 : zB} (X : zX D ca L aS vS A p s m args meth c prog_15_method_177_code 8 (Option.some Jvm.ClassFile.FieldType.int) "StaveHouseModel")  {F : zF} {B : zB} {H : Heap} {locs : List Loc} {ls : Array Slot} (hf : f_M_kindOn_109 K  F B = some (r, F9, B9)) (hZ : zH D ca ad lnM nM L F B A H) (hS : va_S A s.heap H locs) (hl : lv_has ls 8 []) : W p l e ({ frames := 3, cells := 0, slots := 0, locals := 65 } : Room) s m args below meth c H locs 0 0 (MQ below (Q_M_kindOn D ca ad L r F9 B9 A) args s 0 0 A) (F0 m 109 ls []) := by
  obtain ⟨hx, hb, hr, hml, hown, hts, hlk, hK, hA, hL, hX⟩ := id X
  replace hf : (some ((-1), F, B)) = some (r, F9, B9) := hf
  refine lv_iconst (v := iI (-1)) hx hb (D_2 W_prog_15_method_177_code_96 13 rfl rfl) rfl ?_
  cases hf
  exact W.iret hx hb hr (fun t ht hW => ⟨⟨_, (), rfl, rfl, by rw [ht]; exact hZ, va_K.moved hW.alike hK⟩, hS.F ht⟩) hS.2.2 (D_172 W_prog_15_method_177_code_96 14 rfl rfl) hlk

def f_M_kindOn_90 (rec10 : Int → Int → Int → Int → Int → zF → zB → zO) (K : Nat) (l7 : Int) (l6 : Int) (l5 : Int) (l4 : Int) (l3 : Int) (l2 : Int) (l1 : Int) (F : zF) (B : zB) : zO := if r32 l6 then (if l6 = 6 then if r32 l4 then (if 0 ≤ l4 then f_M_kindOn_109 K F B else f_M_kindOn_111 rec10 K l2 l5 l7 l3 l1 F B) else none else f_M_kindOn_109 K F B) else none
set_option maxHeartbeats 4000000 in
set_option maxRecDepth 100000 in
theorem b_M_kindOn_90 {D : va_G} {ca : Nat → ClassId} {ad : Nat → Int → Nat → Nat} {L : List Nat} {aS vS : Nat → Nat} {A : Nat → Prop} {p : Program} {l : Launch} {e : Env} {s : State} {m : MethodId} {args : Array Value} {below : List Frame} {meth : Method} {c : Code} {K : Nat} {r : Int} {F9 : zF} {B9 : zB} (X : zX D ca L aS vS A p s m args meth c prog_15_method_177_code 8 (Option.some Jvm.ClassFile.FieldType.int) "StaveHouseModel") {rec10 : Int → Int → Int → Int → Int → zF → zB → zO} (hrec10 : ∀ {l5 : Int} {l4 : Int} {l3 : Int} {l2 : Int} {l1 : Int} {F : zF} {B : zB} {H : Heap} {locs : List Loc} {ls : Array Slot}, rec10 l5 l4 l3 l2 l1 F B = some (r, F9, B9) → zH D ca ad lnM nM L F B A H → va_S A s.heap H locs → lv_has ls 8 [(5, .int (iI l5)), (4, .int (iI l4)), (3, .int (iI l3)), (2, .int (iI l2)), (0, .ref (ad 14 0 0)), (1, .int (iI l1))] → W p l e ({ frames := 3, cells := 0, slots := 0, locals := 65 } : Room) s m args below meth c H locs 0 0 (MQ below (Q_M_kindOn D ca ad L r F9 B9 A) args s 0 0 A) (F0 m 10 ls [])) {l7 : Int} {l6 : Int} {l5 : Int} {l4 : Int} {l3 : Int} {l2 : Int} {l1 : Int} {F : zF} {B : zB} {H : Heap} {locs : List Loc} {ls : Array Slot} (hf : f_M_kindOn_90 rec10 K l7 l6 l5 l4 l3 l2 l1 F B = some (r, F9, B9)) (hZ : zH D ca ad lnM nM L F B A H) (hS : va_S A s.heap H locs) (hl : lv_has ls 8 [(7, .int (iI l7)), (6, .int (iI l6)), (5, .int (iI l5)), (4, .int (iI l4)), (3, .int (iI l3)), (2, .int (iI l2)), (0, .ref (ad 14 0 0)), (1, .int (iI l1))]) : W p l e ({ frames := 3, cells := 0, slots := 0, locals := 65 } : Room) s m args below meth c H locs 0 0 (MQ below (Q_M_kindOn D ca ad L r F9 B9 A) args s 0 0 A) (F0 m 90 ls []) := by
  obtain ⟨hx, hb, hr, hml, hown, hts, hlk, hK, hA, hL, hX⟩ := id X
  replace hf : (if r32 l6 then (if l6 = 6 then if r32 l4 then (if 0 ≤ l4 then f_M_kindOn_109 K F B else f_M_kindOn_111 rec10 K l2 l5 l7 l3 l1 F B) else none else f_M_kindOn_109 K F B) else none) = some (r, F9, B9) := hf
  refine lv_iload hx hb (D_21 W_prog_15_method_177_code_64 26 rfl rfl) (lv_at hl 1 rfl) ?_
  refine lv_bipush (v := iI 6) hx hb (D_16 W_prog_15_method_177_code_64 28 rfl rfl rfl) (by decide) ?_
  obtain ⟨g23, hf⟩ := gif hf
  refine zne (tgt := 109) hx hb g23 (by decide) (D_160 W_prog_15_method_177_code_64 30 rfl rfl rfl) (by decide) (fun h24 => ?_) (fun h24 => ?_)
  · replace hf := gneg hf h24
    exact b_M_kindOn_109 X hf hZ hS (lv_sub hl [] rfl)
  · replace hf := gpos hf h24
    refine lv_iload hx hb (D_21 W_prog_15_method_177_code_96 1 rfl rfl) (lv_at hl 3 rfl) ?_
    obtain ⟨g25, hf⟩ := gif hf
    refine z0ge (tgt := 109) hx hb g25 (D_156 W_prog_15_method_177_code_96 3 rfl rfl rfl) (by decide) (fun h26 => ?_) (fun h26 => ?_)
    · replace hf := gpos hf h26
      exact b_M_kindOn_109 X hf hZ hS (lv_sub hl [] rfl)
    · replace hf := gneg hf h26
      refine lv_iload hx hb (D_21 W_prog_15_method_177_code_96 6 rfl rfl) (lv_at hl 0 rfl) ?_
      refine lv_istore (lv' := [(4, .int (iI l7)), (7, .int (iI l7)), (6, .int (iI l6)), (5, .int (iI l5)), (3, .int (iI l3)), (2, .int (iI l2)), (0, .ref (ad 14 0 0)), (1, .int (iI l1))]) hx hb (D_54 W_prog_15_method_177_code_96 8 rfl rfl) hl (by decide) rfl (fun ls hl => ?_)
      refine lv_goto (tgt := 111) hx hb (D_167 W_prog_15_method_177_code_96 10 rfl rfl rfl) (by decide) ?_
      exact b_M_kindOn_111 X hrec10 hf hZ hS (lv_sub hl [5, 3, 0, 4, 6, 7] rfl)

def f_M_kindOn_74 (rec10 : Int → Int → Int → Int → Int → zF → zB → zO) (K : Nat) (l7 : Int) (l6 : Int) (l5 : Int) (l4 : Int) (l3 : Int) (l2 : Int) (l1 : Int) (F : zF) (B : zB) : zO := if r32 l6 then (if l6 = 4 then if r32 l3 then (if 0 ≤ l3 then f_M_kindOn_90 rec10 K l7 l6 l5 l4 l3 l2 l1 F B else f_M_kindOn_111 rec10 K l2 l5 l4 l7 l1 F B) else none else f_M_kindOn_90 rec10 K l7 l6 l5 l4 l3 l2 l1 F B) else none
set_option maxHeartbeats 4000000 in
set_option maxRecDepth 100000 in
theorem b_M_kindOn_74 {D : va_G} {ca : Nat → ClassId} {ad : Nat → Int → Nat → Nat} {L : List Nat} {aS vS : Nat → Nat} {A : Nat → Prop} {p : Program} {l : Launch} {e : Env} {s : State} {m : MethodId} {args : Array Value} {below : List Frame} {meth : Method} {c : Code} {K : Nat} {r : Int} {F9 : zF} {B9 : zB} (X : zX D ca L aS vS A p s m args meth c prog_15_method_177_code 8 (Option.some Jvm.ClassFile.FieldType.int) "StaveHouseModel") {rec10 : Int → Int → Int → Int → Int → zF → zB → zO} (hrec10 : ∀ {l5 : Int} {l4 : Int} {l3 : Int} {l2 : Int} {l1 : Int} {F : zF} {B : zB} {H : Heap} {locs : List Loc} {ls : Array Slot}, rec10 l5 l4 l3 l2 l1 F B = some (r, F9, B9) → zH D ca ad lnM nM L F B A H → va_S A s.heap H locs → lv_has ls 8 [(5, .int (iI l5)), (4, .int (iI l4)), (3, .int (iI l3)), (2, .int (iI l2)), (0, .ref (ad 14 0 0)), (1, .int (iI l1))] → W p l e ({ frames := 3, cells := 0, slots := 0, locals := 65 } : Room) s m args below meth c H locs 0 0 (MQ below (Q_M_kindOn D ca ad L r F9 B9 A) args s 0 0 A) (F0 m 10 ls [])) {l7 : Int} {l6 : Int} {l5 : Int} {l4 : Int} {l3 : Int} {l2 : Int} {l1 : Int} {F : zF} {B : zB} {H : Heap} {locs : List Loc} {ls : Array Slot} (hf : f_M_kindOn_74 rec10 K l7 l6 l5 l4 l3 l2 l1 F B = some (r, F9, B9)) (hZ : zH D ca ad lnM nM L F B A H) (hS : va_S A s.heap H locs) (hl : lv_has ls 8 [(7, .int (iI l7)), (6, .int (iI l6)), (5, .int (iI l5)), (4, .int (iI l4)), (3, .int (iI l3)), (2, .int (iI l2)), (0, .ref (ad 14 0 0)), (1, .int (iI l1))]) : W p l e ({ frames := 3, cells := 0, slots := 0, locals := 65 } : Room) s m args below meth c H locs 0 0 (MQ below (Q_M_kindOn D ca ad L r F9 B9 A) args s 0 0 A) (F0 m 74 ls []) := by
  obtain ⟨hx, hb, hr, hml, hown, hts, hlk, hK, hA, hL, hX⟩ := id X
  replace hf : (if r32 l6 then (if l6 = 4 then if r32 l3 then (if 0 ≤ l3 then f_M_kindOn_90 rec10 K l7 l6 l5 l4 l3 l2 l1 F B else f_M_kindOn_111 rec10 K l2 l5 l4 l7 l1 F B) else none else f_M_kindOn_90 rec10 K l7 l6 l5 l4 l3 l2 l1 F B) else none) = some (r, F9, B9) := hf
  refine lv_iload hx hb (D_21 W_prog_15_method_177_code_64 10 rfl rfl) (lv_at hl 1 rfl) ?_
  refine lv_iconst (v := iI 4) hx hb (D_7 W_prog_15_method_177_code_64 12 rfl rfl) rfl ?_
  obtain ⟨g19, hf⟩ := gif hf
  refine zne (tgt := 90) hx hb g19 (by decide) (D_160 W_prog_15_method_177_code_64 13 rfl rfl rfl) (by decide) (fun h20 => ?_) (fun h20 => ?_)
  · replace hf := gneg hf h20
    exact b_M_kindOn_90 X hrec10 hf hZ hS (lv_sub hl [0, 1, 2, 3, 4, 5, 6, 7] rfl)
  · replace hf := gpos hf h20
    refine lv_iload_n hx hb (D_29 W_prog_15_method_177_code_64 16 rfl rfl) rfl (lv_at hl 4 rfl) ?_
    obtain ⟨g21, hf⟩ := gif hf
    refine z0ge (tgt := 90) hx hb g21 (D_156 W_prog_15_method_177_code_64 17 rfl rfl rfl) (by decide) (fun h22 => ?_) (fun h22 => ?_)
    · replace hf := gpos hf h22
      exact b_M_kindOn_90 X hrec10 hf hZ hS (lv_sub hl [0, 1, 2, 3, 4, 5, 6, 7] rfl)
    · replace hf := gneg hf h22
      refine lv_iload hx hb (D_21 W_prog_15_method_177_code_64 20 rfl rfl) (lv_at hl 0 rfl) ?_
      refine lv_istore_n (lv' := [(3, .int (iI l7)), (7, .int (iI l7)), (6, .int (iI l6)), (5, .int (iI l5)), (4, .int (iI l4)), (2, .int (iI l2)), (0, .ref (ad 14 0 0)), (1, .int (iI l1))]) hx hb (D_62 W_prog_15_method_177_code_64 22 rfl rfl) rfl hl (by decide) rfl (fun ls hl => ?_)
      refine lv_goto (tgt := 111) hx hb (D_167 W_prog_15_method_177_code_64 23 rfl rfl rfl) (by decide) ?_
      exact b_M_kindOn_111 X hrec10 hf hZ hS (lv_sub hl [5, 3, 4, 0, 6, 7] rfl)

def f_M_kindOn_10 (K : Nat) : Nat → Int → Int → Int → Int → Int → zF → zB → zO
  | 0, _, _, _, _, _, _, _ => none
  | n + 1, l5, l4, l3, l2, l1, F, B => if r32 l5 then if r32 (F 14 0 100) then (if (F 14 0 100) ≤ l5 then if r32 l2 then (if l2 = 4 then zbind (f_M_ofGreatThird K l3 l4 F B) (fun r8 F8 B8 => f_M_kindOn_146 K r8 F8 B8) else (if l2 = 3 then zbind (f_M_ofSmallThird K l3 l4 F B) (fun r7 F7 B7 => f_M_kindOn_146 K r7 F7 B7) else f_M_kindOn_146 K (-1) F B)) else none else if r32 l1 then (if l5 = l1 then f_M_kindOn_111 (f_M_kindOn_10 K n) K l2 l5 l4 l3 l1 F B else if 0 ≤ l5 ∧ l5 < 24 then if 0 ≤ l1 ∧ l1 < 24 then zbind (f_M_mod K ((B 14 0 98 l5) - (B 14 0 98 l1)) 7 F B) (fun r13 F13 B13 => zbind (f_M_above K l1 l5 F13 B13) (fun r14 F14 B14 => if r32 r13 then (if r13 = 2 then if r32 l2 then (if 0 ≤ l2 then f_M_kindOn_74 (f_M_kindOn_10 K n) K r14 r13 l5 l4 l3 l2 l1 F14 B14 else f_M_kindOn_111 (f_M_kindOn_10 K n) K r14 l5 l4 l3 l1 F14 B14) else none else f_M_kindOn_74 (f_M_kindOn_10 K n) K r14 r13 l5 l4 l3 l2 l1 F14 B14) else none)) else none else none) else none) else none else none
set_option maxHeartbeats 4000000 in
set_option maxRecDepth 100000 in
theorem b_M_kindOn_10 {D : va_G} {ca : Nat → ClassId} {ad : Nat → Int → Nat → Nat} {L : List Nat} {aS vS : Nat → Nat} {A : Nat → Prop} {p : Program} {l : Launch} {e : Env} {s : State} {m : MethodId} {args : Array Value} {below : List Frame} {meth : Method} {c : Code} {K : Nat} {r : Int} {F9 : zF} {B9 : zB} (X : zX D ca L aS vS A p s m args meth c prog_15_method_177_code 8 (Option.some Jvm.ClassFile.FieldType.int) "StaveHouseModel") : ∀ {n : Nat} {l5 : Int} {l4 : Int} {l3 : Int} {l2 : Int} {l1 : Int} {F : zF} {B : zB} {H : Heap} {locs : List Loc} {ls : Array Slot}, f_M_kindOn_10 K n l5 l4 l3 l2 l1 F B = some (r, F9, B9) → zH D ca ad lnM nM L F B A H → va_S A s.heap H locs → lv_has ls 8 [(5, .int (iI l5)), (4, .int (iI l4)), (3, .int (iI l3)), (2, .int (iI l2)), (0, .ref (ad 14 0 0)), (1, .int (iI l1))] → W p l e ({ frames := 3, cells := 0, slots := 0, locals := 65 } : Room) s m args below meth c H locs 0 0 (MQ below (Q_M_kindOn D ca ad L r F9 B9 A) args s 0 0 A) (F0 m 10 ls []) := by
  obtain ⟨hx, hb, hr, hml, hown, hts, hlk, hK, hA, hL, hX⟩ := id X
  intro n
  induction n with
  | zero =>
    intros
    rename_i hf _ _ _
    cases hf
  | succ n ih =>
    intro l5 l4 l3 l2 l1 F B H locs ls hf hZ hS hl
    replace hf : (if r32 l5 then if r32 (F 14 0 100) then (if (F 14 0 100) ≤ l5 then if r32 l2 then (if l2 = 4 then zbind (f_M_ofGreatThird K l3 l4 F B) (fun r8 F8 B8 => f_M_kindOn_146 K r8 F8 B8) else (if l2 = 3 then zbind (f_M_ofSmallThird K l3 l4 F B) (fun r7 F7 B7 => f_M_kindOn_146 K r7 F7 B7) else f_M_kindOn_146 K (-1) F B)) else none else if r32 l1 then (if l5 = l1 then f_M_kindOn_111 (f_M_kindOn_10 K n) K l2 l5 l4 l3 l1 F B else if 0 ≤ l5 ∧ l5 < 24 then if 0 ≤ l1 ∧ l1 < 24 then zbind (f_M_mod K ((B 14 0 98 l5) - (B 14 0 98 l1)) 7 F B) (fun r13 F13 B13 => zbind (f_M_above K l1 l5 F13 B13) (fun r14 F14 B14 => if r32 r13 then (if r13 = 2 then if r32 l2 then (if 0 ≤ l2 then f_M_kindOn_74 (f_M_kindOn_10 K n) K r14 r13 l5 l4 l3 l2 l1 F14 B14 else f_M_kindOn_111 (f_M_kindOn_10 K n) K r14 l5 l4 l3 l1 F14 B14) else none else f_M_kindOn_74 (f_M_kindOn_10 K n) K r14 r13 l5 l4 l3 l2 l1 F14 B14) else none)) else none else none) else none) else none else none) = some (r, F9, B9) := hf
    refine lv_iload hx hb (D_21 W_prog_15_method_177_code_0 10 rfl rfl) (lv_at hl 0 rfl) ?_
    refine lv_aload_n hx hb (D_42 W_prog_15_method_177_code_0 12 rfl rfl) rfl (lv_at hl 4 rfl) ?_
    refine zget (ci := 14) (C := RX14) (T := TX14) (v := .int (iI (F 14 0 100))) (k := 100) hx hb hts inW_14 hown hK hZ (by decide) (by decide) rfl (by decide) k_11_98 rfl (D_180 W_prog_15_method_177_code_0 13 rfl rfl rfl) ?_
    obtain ⟨g1, hf⟩ := gif hf
    obtain ⟨g2, hf⟩ := gif hf
    refine zge (tgt := 117) hx hb g1 g2 (D_162 W_prog_15_method_177_code_0 16 rfl rfl rfl) (by decide) (fun h3 => ?_) (fun h3 => ?_)
    · replace hf := gpos hf h3
      refine lv_iload_n hx hb (D_28 W_prog_15_method_177_code_96 21 rfl rfl) rfl (lv_at hl 3 rfl) ?_
      refine lv_iconst (v := iI 4) hx hb (D_7 W_prog_15_method_177_code_96 22 rfl rfl) rfl ?_
      obtain ⟨g4, hf⟩ := gif hf
      refine zne (tgt := 131) hx hb g4 (by decide) (D_160 W_prog_15_method_177_code_96 23 rfl rfl rfl) (by decide) (fun h5 => ?_) (fun h5 => ?_)
      · replace hf := gneg hf h5
        refine lv_iload_n hx hb (D_28 W_prog_15_method_177_code_128 3 rfl rfl) rfl (lv_at hl 3 rfl) ?_
        refine lv_iconst (v := iI 3) hx hb (D_6 W_prog_15_method_177_code_128 4 rfl rfl) rfl ?_
        refine zne (tgt := 145) hx hb g4 (by decide) (D_160 W_prog_15_method_177_code_128 5 rfl rfl rfl) (by decide) (fun h6 => ?_) (fun h6 => ?_)
        · replace hf := gneg hf h6
          refine lv_iconst (v := iI (-1)) hx hb (D_2 W_prog_15_method_177_code_128 17 rfl rfl) rfl ?_
          exact b_M_kindOn_146 X hf hZ hS (lv_sub hl [] rfl)
        · replace hf := gpos hf h6
          refine lv_iload_n hx hb (D_29 W_prog_15_method_177_code_128 8 rfl rfl) rfl (lv_at hl 2 rfl) ?_
          refine lv_iload hx hb (D_21 W_prog_15_method_177_code_128 9 rfl rfl) (lv_at hl 1 rfl) ?_
          obtain ⟨r7, F7, B7, hc7, hf⟩ := gbind hf
          refine va_calli (va_runS (As := [.int (iI l3), .int (iI l4)]) (rest := []) ⟨hx, hb, hml, hown, hts⟩ (c_M_ofSmallThird (l := l) hc7) (va_cwS 2 hts (gdS k_14_40 k_14_41 k_1_9 k_14_42) rfl rfl rfl (by decide +kernel) ⟨Nat.le_of_ble_eq_true rfl, Nat.le_of_ble_eq_true rfl⟩) (zPS X hZ hS [.int (iI l3), .int (iI l4)]) rfl rfl hl.1 rfl (lv_room (Nat.le_of_ble_eq_true rfl)) (D_184 W_prog_15_method_177_code_128 11 rfl rfl rfl) ⟨Nat.le_of_ble_eq_true rfl, Nat.le_of_ble_eq_true rfl⟩) hS (fun q _ h => zAin X hS q h) (zAin X hS) (fun p7 u7 t7 H7 locs7 ht7 hv7 hw7 hB7 hz7 hk7 hS7 => ?_)
          have hZ7 := zBack X ht7 hB7
          subst hw7
          refine lv_goto (tgt := 146) hx hb (D_167 W_prog_15_method_177_code_128 14 rfl rfl rfl) (by decide) ?_
          exact b_M_kindOn_146 X hf hZ7 hS7 (lv_sub hl [] rfl)
      · replace hf := gpos hf h5
        refine lv_iload_n hx hb (D_29 W_prog_15_method_177_code_96 26 rfl rfl) rfl (lv_at hl 2 rfl) ?_
        refine lv_iload hx hb (D_21 W_prog_15_method_177_code_96 27 rfl rfl) (lv_at hl 1 rfl) ?_
        obtain ⟨r8, F8, B8, hc8, hf⟩ := gbind hf
        refine va_calli (va_runS (As := [.int (iI l3), .int (iI l4)]) (rest := []) ⟨hx, hb, hml, hown, hts⟩ (c_M_ofGreatThird (l := l) hc8) (va_cwS 2 hts (gdS k_14_37 k_14_38 k_1_9 k_14_39) rfl rfl rfl (by decide +kernel) ⟨Nat.le_of_ble_eq_true rfl, Nat.le_of_ble_eq_true rfl⟩) (zPS X hZ hS [.int (iI l3), .int (iI l4)]) rfl rfl hl.1 rfl (lv_room (Nat.le_of_ble_eq_true rfl)) (D_184 W_prog_15_method_177_code_96 29 rfl rfl rfl) ⟨Nat.le_of_ble_eq_true rfl, Nat.le_of_ble_eq_true rfl⟩) hS (fun q _ h => zAin X hS q h) (zAin X hS) (fun p8 u8 t8 H8 locs8 ht8 hv8 hw8 hB8 hz8 hk8 hS8 => ?_)
        have hZ8 := zBack X ht8 hB8
        subst hw8
        refine lv_goto (tgt := 146) hx hb (D_167 W_prog_15_method_177_code_128 0 rfl rfl rfl) (by decide) ?_
        exact b_M_kindOn_146 X hf hZ8 hS8 (lv_sub hl [] rfl)
    · replace hf := gneg hf h3
      refine lv_iload hx hb (D_21 W_prog_15_method_177_code_0 19 rfl rfl) (lv_at hl 0 rfl) ?_
      refine lv_iload_n hx hb (D_27 W_prog_15_method_177_code_0 21 rfl rfl) rfl (lv_at hl 5 rfl) ?_
      obtain ⟨g9, hf⟩ := gif hf
      refine zne (tgt := 28) hx hb g1 g9 (D_160 W_prog_15_method_177_code_0 22 rfl rfl rfl) (by decide) (fun h10 => ?_) (fun h10 => ?_)
      · replace hf := gneg hf h10
        refine lv_aload_n hx hb (D_42 W_prog_15_method_177_code_0 28 rfl rfl) rfl (lv_at hl 4 rfl) ?_
        refine zget (ci := 14) (C := RX14) (T := TX14) (v := .ref (ad 14 0 (98 + 1))) (k := 98) hx hb hts inW_14 hown hK hZ (by decide) (by decide) rfl (by decide) k_11_96 rfl (D_180 W_prog_15_method_177_code_0 29 rfl rfl rfl) ?_
        refine lv_iload hx hb (D_21 W_prog_15_method_177_code_32 0 rfl rfl) (lv_at hl 0 rfl) ?_
        obtain ⟨g11, hf⟩ := gif hf
        refine zald (ci := 14) (k := 98) hx hb hK rfl hZ (by decide) (by decide) rfl (Nat.le_of_ble_eq_true rfl) g11.1 g11.2 (D_46 W_prog_15_method_177_code_32 2 rfl rfl) ?_
        refine lv_aload_n hx hb (D_42 W_prog_15_method_177_code_32 3 rfl rfl) rfl (lv_at hl 4 rfl) ?_
        refine zget (ci := 14) (C := RX14) (T := TX14) (v := .ref (ad 14 0 (98 + 1))) (k := 98) hx hb hts inW_14 hown hK hZ (by decide) (by decide) rfl (by decide) k_11_96 rfl (D_180 W_prog_15_method_177_code_32 4 rfl rfl rfl) ?_
        refine lv_iload_n hx hb (D_27 W_prog_15_method_177_code_32 7 rfl rfl) rfl (lv_at hl 5 rfl) ?_
        obtain ⟨g12, hf⟩ := gif hf
        refine zald (ci := 14) (k := 98) hx hb hK rfl hZ (by decide) (by decide) rfl (Nat.le_of_ble_eq_true rfl) g12.1 g12.2 (D_46 W_prog_15_method_177_code_32 8 rfl rfl) ?_
        refine zsub hx hb (D_100 W_prog_15_method_177_code_32 9 rfl rfl) ?_
        refine lv_bipush (v := iI 7) hx hb (D_16 W_prog_15_method_177_code_32 10 rfl rfl rfl) (by decide) ?_
        obtain ⟨r13, F13, B13, hc13, hf⟩ := gbind hf
        refine va_calli (va_runS (As := [.int (iI ((B 14 0 98 l5) - (B 14 0 98 l1))), .int (iI 7)]) (rest := []) ⟨hx, hb, hml, hown, hts⟩ (c_M_mod (l := l) hc13) (va_cwS 2 hts (gdS k_12_164 k_12_165 k_1_9 k_12_166) rfl rfl rfl (by decide +kernel) ⟨Nat.le_of_ble_eq_true rfl, Nat.le_of_ble_eq_true rfl⟩) (zPS X hZ hS [.int (iI ((B 14 0 98 l5) - (B 14 0 98 l1))), .int (iI 7)]) rfl rfl hl.1 rfl (lv_room (Nat.le_of_ble_eq_true rfl)) (D_184 W_prog_15_method_177_code_32 12 rfl rfl rfl) ⟨Nat.le_of_ble_eq_true rfl, Nat.le_of_ble_eq_true rfl⟩) hS (fun q _ h => zAin X hS q h) (zAin X hS) (fun p13 u13 t13 H13 locs13 ht13 hv13 hw13 hB13 hz13 hk13 hS13 => ?_)
        have hZ13 := zBack X ht13 hB13
        subst hw13
        refine lv_istore (lv' := [(6, .int (iI r13)), (5, .int (iI l5)), (4, .int (iI l4)), (3, .int (iI l3)), (2, .int (iI l2)), (0, .ref (ad 14 0 0)), (1, .int (iI l1))]) hx hb (D_54 W_prog_15_method_177_code_32 15 rfl rfl) hl (by decide) rfl (fun ls hl => ?_)
        refine lv_aload_n hx hb (D_42 W_prog_15_method_177_code_32 17 rfl rfl) rfl (lv_at hl 5 rfl) ?_
        refine lv_iload_n hx hb (D_27 W_prog_15_method_177_code_32 18 rfl rfl) rfl (lv_at hl 6 rfl) ?_
        refine lv_iload hx hb (D_21 W_prog_15_method_177_code_32 19 rfl rfl) (lv_at hl 1 rfl) ?_
        obtain ⟨r14, F14, B14, hc14, hf⟩ := gbind hf
        refine va_calli (va_runV (As := [.int (iI l1), .int (iI l5)]) (rest := []) ⟨hx, hb, hml, hown, hts⟩ (c_M_above (l := l) hc14) (cwV 2 hts (gdV k_14_33 k_14_35 ks_192 k_1_9 k_14_36) rfl rfl rfl (by decide +kernel) ⟨Nat.le_of_ble_eq_true rfl, Nat.le_of_ble_eq_true rfl⟩) (zPV X hZ13 hS13 (ci := 14) (by decide) (by decide) (r := (RX14, TX14, 107)) rfl [.int (iI l1), .int (iI l5)]) rfl rfl hl.1 rfl (lv_room (Nat.le_of_ble_eq_true rfl)) (D_182 W_prog_15_method_177_code_32 21 rfl rfl rfl) ⟨Nat.le_of_ble_eq_true rfl, Nat.le_of_ble_eq_true rfl⟩) hS13 (fun q _ h => zAin X hS13 q h) (zAin X hS13) (fun p14 u14 t14 H14 locs14 ht14 hv14 hw14 hB14 hz14 hk14 hS14 => ?_)
        have hZ14 := zBack X ht14 hB14
        subst hw14
        refine lv_istore (lv' := [(7, .int (iI r14)), (6, .int (iI r13)), (5, .int (iI l5)), (4, .int (iI l4)), (3, .int (iI l3)), (2, .int (iI l2)), (0, .ref (ad 14 0 0)), (1, .int (iI l1))]) hx hb (D_54 W_prog_15_method_177_code_32 24 rfl rfl) hl (by decide) rfl (fun ls hl => ?_)
        refine lv_iload hx hb (D_21 W_prog_15_method_177_code_32 26 rfl rfl) (lv_at hl 1 rfl) ?_
        refine lv_iconst (v := iI 2) hx hb (D_5 W_prog_15_method_177_code_32 28 rfl rfl) rfl ?_
        obtain ⟨g15, hf⟩ := gif hf
        refine zne (tgt := 74) hx hb g15 (by decide) (D_160 W_prog_15_method_177_code_32 29 rfl rfl rfl) (by decide) (fun h16 => ?_) (fun h16 => ?_)
        · replace hf := gneg hf h16
          exact b_M_kindOn_74 X ih hf hZ14 hS14 (lv_sub hl [0, 1, 2, 3, 4, 5, 6, 7] rfl)
        · replace hf := gpos hf h16
          refine lv_iload_n hx hb (D_28 W_prog_15_method_177_code_64 0 rfl rfl) rfl (lv_at hl 5 rfl) ?_
          obtain ⟨g17, hf⟩ := gif hf
          refine z0ge (tgt := 74) hx hb g17 (D_156 W_prog_15_method_177_code_64 1 rfl rfl rfl) (by decide) (fun h18 => ?_) (fun h18 => ?_)
          · replace hf := gpos hf h18
            exact b_M_kindOn_74 X ih hf hZ14 hS14 (lv_sub hl [0, 1, 2, 3, 4, 5, 6, 7] rfl)
          · replace hf := gneg hf h18
            refine lv_iload hx hb (D_21 W_prog_15_method_177_code_64 4 rfl rfl) (lv_at hl 0 rfl) ?_
            refine lv_istore_n (lv' := [(2, .int (iI r14)), (7, .int (iI r14)), (6, .int (iI r13)), (5, .int (iI l5)), (4, .int (iI l4)), (3, .int (iI l3)), (0, .ref (ad 14 0 0)), (1, .int (iI l1))]) hx hb (D_61 W_prog_15_method_177_code_64 6 rfl rfl) rfl hl (by decide) rfl (fun ls hl => ?_)
            refine lv_goto (tgt := 111) hx hb (D_167 W_prog_15_method_177_code_64 7 rfl rfl rfl) (by decide) ?_
            exact b_M_kindOn_111 X ih hf hZ14 hS14 (lv_sub hl [0, 3, 4, 5, 6, 7] rfl)
      · replace hf := gpos hf h10
        refine lv_goto (tgt := 111) hx hb (D_167 W_prog_15_method_177_code_0 25 rfl rfl rfl) (by decide) ?_
        exact b_M_kindOn_111 X ih hf hZ hS (lv_sub hl [3, 0, 1, 2, 4, 5] rfl)

def f_M_kindOn (K : Nat) (l1 : Int) (F : zF) (B : zB) : zO := f_M_kindOn_10 K K 0 (-1) (-1) (-1) l1 F B
set_option maxHeartbeats 4000000 in
set_option maxRecDepth 100000 in
theorem c_M_kindOn {l : Launch} {D : va_G} {ca : Nat → ClassId} {ad : Nat → Int → Nat → Nat} {L : List Nat} {aS vS : Nat → Nat} {sz K : Nat}  {l1 : Int} {F F9 : zF} {B B9 : zB} {r : Int} (hf : f_M_kindOn K l1 F B = some (r, F9, B9)) : Met l ({ cls := "StaveHouseModel", name := "kindOn", desc := "(I)I" } : Jvm.MethodName) (Cond.code ({ cls := "StaveHouseModel", name := "kindOn", desc := "(I)I" } : Jvm.MethodName) prog_15_method_177_code 8 (Option.some Jvm.ClassFile.FieldType.int) :: wAll) ({ frames := 3, cells := 0, slots := 0, locals := 65 } : Room) (va_Pc [.ref (ad 14 0 0), .int (iI l1)] (zPre D ca ad lnM nM L aS vS F B sz)) (Q_M_kindOn D ca ad L r F9 B9 (zA L sz)) 0 0 (zA L sz) := by
  refine zMet (Qc := Q_M_kindOn D ca ad L r F9 B9) (lv := [(0, .ref (ad 14 0 0)), (1, .int (iI l1))]) (by decide) (Nat.le_of_ble_eq_true rfl) rfl (fun A p e s m below meth c ls X hZ hS hl => ?_)
  obtain ⟨hx, hb, hr, hml, hown, hts, hlk, hK, hA, hL, hX⟩ := id X
  replace hf : (f_M_kindOn_10 K K 0 (-1) (-1) (-1) l1 F B) = some (r, F9, B9) := hf
  refine lv_iconst (v := iI (-1)) hx hb (D_2 W_prog_15_method_177_code_0 0 rfl rfl) rfl ?_
  refine lv_istore_n (lv' := [(2, .int (iI (-1))), (0, .ref (ad 14 0 0)), (1, .int (iI l1))]) hx hb (D_61 W_prog_15_method_177_code_0 1 rfl rfl) rfl hl (by decide) rfl (fun ls hl => ?_)
  refine lv_iconst (v := iI (-1)) hx hb (D_2 W_prog_15_method_177_code_0 2 rfl rfl) rfl ?_
  refine lv_istore_n (lv' := [(3, .int (iI (-1))), (2, .int (iI (-1))), (0, .ref (ad 14 0 0)), (1, .int (iI l1))]) hx hb (D_62 W_prog_15_method_177_code_0 3 rfl rfl) rfl hl (by decide) rfl (fun ls hl => ?_)
  refine lv_iconst (v := iI (-1)) hx hb (D_2 W_prog_15_method_177_code_0 4 rfl rfl) rfl ?_
  refine lv_istore (lv' := [(4, .int (iI (-1))), (3, .int (iI (-1))), (2, .int (iI (-1))), (0, .ref (ad 14 0 0)), (1, .int (iI l1))]) hx hb (D_54 W_prog_15_method_177_code_0 5 rfl rfl) hl (by decide) rfl (fun ls hl => ?_)
  refine lv_iconst (v := iI 0) hx hb (D_3 W_prog_15_method_177_code_0 7 rfl rfl) rfl ?_
  refine lv_istore (lv' := [(5, .int (iI 0)), (4, .int (iI (-1))), (3, .int (iI (-1))), (2, .int (iI (-1))), (0, .ref (ad 14 0 0)), (1, .int (iI l1))]) hx hb (D_54 W_prog_15_method_177_code_0 8 rfl rfl) hl (by decide) rfl (fun ls hl => ?_)
  exact b_M_kindOn_10 X hf hZ hS (lv_sub hl [0, 1, 2, 3, 4, 5] rfl)

abbrev Q_M_isForeign (D : va_G) (ca : Nat → ClassId) (ad : Nat → Int → Nat → Nat) (L : List Nat) (r : Int) (F : zF) (B : zB) (A : Nat → Prop) : Array Value → State → Outcome → State → Prop := va_Qi (S := Unit) (fun p _ => p = iI r) (fun _ => zPo D ca ad lnM nM L F B A) A
def f_M_isForeign_43 (rec4 : Int → Int → Int → zF → zB → zO) (K : Nat) (l3 : Int) (l1 : Int) (s0 : Int) (F : zF) (B : zB) : zO := rec4 (l3 + 1) s0 l1 F B
set_option maxHeartbeats 4000000 in
set_option maxRecDepth 100000 in
theorem b_M_isForeign_43 {D : va_G} {ca : Nat → ClassId} {ad : Nat → Int → Nat → Nat} {L : List Nat} {aS vS : Nat → Nat} {A : Nat → Prop} {p : Program} {l : Launch} {e : Env} {s : State} {m : MethodId} {args : Array Value} {below : List Frame} {meth : Method} {c : Code} {K : Nat} {r : Int} {F9 : zF} {B9 : zB} (X : zX D ca L aS vS A p s m args meth c prog_15_method_180_code 4 (Option.some Jvm.ClassFile.FieldType.boolean) "StaveHouseModel") {rec4 : Int → Int → Int → zF → zB → zO} (hrec4 : ∀ {l3 : Int} {l2 : Int} {l1 : Int} {F : zF} {B : zB} {H : Heap} {locs : List Loc} {ls : Array Slot}, rec4 l3 l2 l1 F B = some (r, F9, B9) → zH D ca ad lnM nM L F B A H → va_S A s.heap H locs → lv_has ls 4 [(3, .int (iI l3)), (2, .int (iI l2)), (0, .ref (ad 14 0 0)), (1, .ref (ad 13 l1 0))] → W p l e ({ frames := 3, cells := 0, slots := 0, locals := 66 } : Room) s m args below meth c H locs 0 0 (MQ below (Q_M_isForeign D ca ad L r F9 B9 A) args s 0 0 A) (F0 m 4 ls [])) {l3 : Int} {l1 : Int} {s0 : Int} {F : zF} {B : zB} {H : Heap} {locs : List Loc} {ls : Array Slot} (hf : f_M_isForeign_43 rec4 K l3 l1 s0 F B = some (r, F9, B9)) (hZ : zH D ca ad lnM nM L F B A H) (hS : va_S A s.heap H locs) (hl : lv_has ls 4 [(3, .int (iI l3)), (0, .ref (ad 14 0 0)), (1, .ref (ad 13 l1 0))]) : W p l e ({ frames := 3, cells := 0, slots := 0, locals := 66 } : Room) s m args below meth c H locs 0 0 (MQ below (Q_M_isForeign D ca ad L r F9 B9 A) args s 0 0 A) (F0 m 43 ls [.int (iI s0)]) := by
  obtain ⟨hx, hb, hr, hml, hown, hts, hlk, hK, hA, hL, hX⟩ := id X
  replace hf : (rec4 (l3 + 1) s0 l1 F B) = some (r, F9, B9) := hf
  refine lv_istore_n (lv' := [(2, .int (iI s0)), (3, .int (iI l3)), (0, .ref (ad 14 0 0)), (1, .ref (ad 13 l1 0))]) hx hb (D_61 W_prog_15_method_180_code_32 11 rfl rfl) rfl hl (by decide) rfl (fun ls hl => ?_)
  refine lv_iinc (v := iI (l3 + 1)) (lv' := [(3, .int (iI (l3 + 1))), (2, .int (iI s0)), (0, .ref (ad 14 0 0)), (1, .ref (ad 13 l1 0))]) hx hb d_15_180_44 hl (k := 1) rfl (iI_add _ 1) (by decide) rfl (fun ls hl => ?_)
  refine lv_goto (tgt := 4) hx hb (D_167 W_prog_15_method_180_code_32 15 rfl rfl rfl) (by decide) ?_
  exact hrec4 hf hZ hS (lv_sub hl [0, 1, 2, 3] rfl)

def f_M_isForeign_38 (rec4 : Int → Int → Int → zF → zB → zO) (K : Nat) (l3 : Int) (l1 : Int) (F : zF) (B : zB) : zO := f_M_isForeign_43 rec4 K l3 l1 1 F B
set_option maxHeartbeats 4000000 in
set_option maxRecDepth 100000 in
theorem b_M_isForeign_38 {D : va_G} {ca : Nat → ClassId} {ad : Nat → Int → Nat → Nat} {L : List Nat} {aS vS : Nat → Nat} {A : Nat → Prop} {p : Program} {l : Launch} {e : Env} {s : State} {m : MethodId} {args : Array Value} {below : List Frame} {meth : Method} {c : Code} {K : Nat} {r : Int} {F9 : zF} {B9 : zB} (X : zX D ca L aS vS A p s m args meth c prog_15_method_180_code 4 (Option.some Jvm.ClassFile.FieldType.boolean) "StaveHouseModel") {rec4 : Int → Int → Int → zF → zB → zO} (hrec4 : ∀ {l3 : Int} {l2 : Int} {l1 : Int} {F : zF} {B : zB} {H : Heap} {locs : List Loc} {ls : Array Slot}, rec4 l3 l2 l1 F B = some (r, F9, B9) → zH D ca ad lnM nM L F B A H → va_S A s.heap H locs → lv_has ls 4 [(3, .int (iI l3)), (2, .int (iI l2)), (0, .ref (ad 14 0 0)), (1, .ref (ad 13 l1 0))] → W p l e ({ frames := 3, cells := 0, slots := 0, locals := 66 } : Room) s m args below meth c H locs 0 0 (MQ below (Q_M_isForeign D ca ad L r F9 B9 A) args s 0 0 A) (F0 m 4 ls [])) {l3 : Int} {l1 : Int} {F : zF} {B : zB} {H : Heap} {locs : List Loc} {ls : Array Slot} (hf : f_M_isForeign_38 rec4 K l3 l1 F B = some (r, F9, B9)) (hZ : zH D ca ad lnM nM L F B A H) (hS : va_S A s.heap H locs) (hl : lv_has ls 4 [(3, .int (iI l3)), (0, .ref (ad 14 0 0)), (1, .ref (ad 13 l1 0))]) : W p l e ({ frames := 3, cells := 0, slots := 0, locals := 66 } : Room) s m args below meth c H locs 0 0 (MQ below (Q_M_isForeign D ca ad L r F9 B9 A) args s 0 0 A) (F0 m 38 ls []) := by
  obtain ⟨hx, hb, hr, hml, hown, hts, hlk, hK, hA, hL, hX⟩ := id X
  replace hf : (f_M_isForeign_43 rec4 K l3 l1 1 F B) = some (r, F9, B9) := hf
  refine lv_iconst (v := iI 1) hx hb (D_4 W_prog_15_method_180_code_32 6 rfl rfl) rfl ?_
  refine lv_goto (tgt := 43) hx hb (D_167 W_prog_15_method_180_code_32 7 rfl rfl rfl) (by decide) ?_
  exact b_M_isForeign_43 X hrec4 hf hZ hS (lv_sub hl [0, 1, 2] rfl)

def f_M_isForeign_4 (K : Nat) : Nat → Int → Int → Int → zF → zB → zO
  | 0, _, _, _, _, _ => none
  | n + 1, l3, l2, l1, F, B => if r32 l3 then if r32 (F 14 0 100) then (if (F 14 0 100) ≤ l3 then if (l2 = 0 ∨ l2 = 1) then some (l2, F, B) else none else if r32 l2 then (if l2 = 0 then if 0 ≤ l1 ∧ l1 < 3 then if 0 ≤ l3 ∧ l3 < 24 then zbind (f_M_inKey K (F 13 l1 2) (B 14 0 98 l3) F B) (fun r9 F9 B9 => if r32 r9 then if r32 (B9 14 0 99 l3) then (if r9 = (B9 14 0 99 l3) then f_M_isForeign_43 (f_M_isForeign_4 K n) K l3 l1 0 F9 B9 else f_M_isForeign_38 (f_M_isForeign_4 K n) K l3 l1 F9 B9) else none else none) else none else none else f_M_isForeign_38 (f_M_isForeign_4 K n) K l3 l1 F B) else none) else none else none
set_option maxHeartbeats 4000000 in
set_option maxRecDepth 100000 in
theorem b_M_isForeign_4 {D : va_G} {ca : Nat → ClassId} {ad : Nat → Int → Nat → Nat} {L : List Nat} {aS vS : Nat → Nat} {A : Nat → Prop} {p : Program} {l : Launch} {e : Env} {s : State} {m : MethodId} {args : Array Value} {below : List Frame} {meth : Method} {c : Code} {K : Nat} {r : Int} {F9 : zF} {B9 : zB} (X : zX D ca L aS vS A p s m args meth c prog_15_method_180_code 4 (Option.some Jvm.ClassFile.FieldType.boolean) "StaveHouseModel") : ∀ {n : Nat} {l3 : Int} {l2 : Int} {l1 : Int} {F : zF} {B : zB} {H : Heap} {locs : List Loc} {ls : Array Slot}, f_M_isForeign_4 K n l3 l2 l1 F B = some (r, F9, B9) → zH D ca ad lnM nM L F B A H → va_S A s.heap H locs → lv_has ls 4 [(3, .int (iI l3)), (2, .int (iI l2)), (0, .ref (ad 14 0 0)), (1, .ref (ad 13 l1 0))] → W p l e ({ frames := 3, cells := 0, slots := 0, locals := 66 } : Room) s m args below meth c H locs 0 0 (MQ below (Q_M_isForeign D ca ad L r F9 B9 A) args s 0 0 A) (F0 m 4 ls []) := by
  obtain ⟨hx, hb, hr, hml, hown, hts, hlk, hK, hA, hL, hX⟩ := id X
  intro n
  induction n with
  | zero =>
    intros
    rename_i hf _ _ _
    cases hf
  | succ n ih =>
    intro l3 l2 l1 F B H locs ls hf hZ hS hl
    replace hf : (if r32 l3 then if r32 (F 14 0 100) then (if (F 14 0 100) ≤ l3 then if (l2 = 0 ∨ l2 = 1) then some (l2, F, B) else none else if r32 l2 then (if l2 = 0 then if 0 ≤ l1 ∧ l1 < 3 then if 0 ≤ l3 ∧ l3 < 24 then zbind (f_M_inKey K (F 13 l1 2) (B 14 0 98 l3) F B) (fun r9 F9 B9 => if r32 r9 then if r32 (B9 14 0 99 l3) then (if r9 = (B9 14 0 99 l3) then f_M_isForeign_43 (f_M_isForeign_4 K n) K l3 l1 0 F9 B9 else f_M_isForeign_38 (f_M_isForeign_4 K n) K l3 l1 F9 B9) else none else none) else none else none else f_M_isForeign_38 (f_M_isForeign_4 K n) K l3 l1 F B) else none) else none else none) = some (r, F9, B9) := hf
    refine lv_iload_n hx hb (D_29 W_prog_15_method_180_code_0 4 rfl rfl) rfl (lv_at hl 0 rfl) ?_
    refine lv_aload_n hx hb (D_42 W_prog_15_method_180_code_0 5 rfl rfl) rfl (lv_at hl 2 rfl) ?_
    refine zget (ci := 14) (C := RX14) (T := TX14) (v := .int (iI (F 14 0 100))) (k := 100) hx hb hts inW_14 hown hK hZ (by decide) (by decide) rfl (by decide) k_11_98 rfl (D_180 W_prog_15_method_180_code_0 6 rfl rfl rfl) ?_
    obtain ⟨g1, hf⟩ := gif hf
    obtain ⟨g2, hf⟩ := gif hf
    refine zge (tgt := 50) hx hb g1 g2 (D_162 W_prog_15_method_180_code_0 9 rfl rfl rfl) (by decide) (fun h3 => ?_) (fun h3 => ?_)
    · replace hf := gpos hf h3
      refine lv_iload_n hx hb (D_28 W_prog_15_method_180_code_32 18 rfl rfl) rfl (lv_at hl 1 rfl) ?_
      obtain ⟨g4, hf⟩ := gif hf
      cases hf
      exact W.zret hx hb hr (zbool g4) (fun t ht hW => ⟨⟨_, (), rfl, rfl, by rw [ht]; exact hZ, va_K.moved hW.alike hK⟩, hS.F ht⟩) hS.2.2 (D_172 W_prog_15_method_180_code_32 19 rfl rfl) hlk
    · replace hf := gneg hf h3
      refine lv_iload_n hx hb (D_28 W_prog_15_method_180_code_0 12 rfl rfl) rfl (lv_at hl 1 rfl) ?_
      obtain ⟨g5, hf⟩ := gif hf
      refine z0ne (tgt := 38) hx hb g5 (D_154 W_prog_15_method_180_code_0 13 rfl rfl rfl) (by decide) (fun h6 => ?_) (fun h6 => ?_)
      · replace hf := gneg hf h6
        exact b_M_isForeign_38 X ih hf hZ hS (lv_sub hl [0, 2, 3] rfl)
      · replace hf := gpos hf h6
        refine lv_aload_n hx hb (D_43 W_prog_15_method_180_code_0 16 rfl rfl) rfl (lv_at hl 3 rfl) ?_
        obtain ⟨g7, hf⟩ := gif hf
        refine zget (ci := 13) (C := RX13) (T := TX13) (v := .int (iI (F 13 l1 2))) (k := 2) hx hb hts inW_13 hown hK hZ g7.1 g7.2 rfl (by decide) k_9_127 rfl (D_180 W_prog_15_method_180_code_0 17 rfl rfl rfl) ?_
        refine lv_aload_n hx hb (D_42 W_prog_15_method_180_code_0 20 rfl rfl) rfl (lv_at hl 2 rfl) ?_
        refine zget (ci := 14) (C := RX14) (T := TX14) (v := .ref (ad 14 0 (98 + 1))) (k := 98) hx hb hts inW_14 hown hK hZ (by decide) (by decide) rfl (by decide) k_11_96 rfl (D_180 W_prog_15_method_180_code_0 21 rfl rfl rfl) ?_
        refine lv_iload_n hx hb (D_29 W_prog_15_method_180_code_0 24 rfl rfl) rfl (lv_at hl 0 rfl) ?_
        obtain ⟨g8, hf⟩ := gif hf
        refine zald (ci := 14) (k := 98) hx hb hK rfl hZ (by decide) (by decide) rfl (Nat.le_of_ble_eq_true rfl) g8.1 g8.2 (D_46 W_prog_15_method_180_code_0 25 rfl rfl) ?_
        obtain ⟨r9, F9, B9, hc9, hf⟩ := gbind hf
        refine va_calli (va_runS (As := [.int (iI (F 13 l1 2)), .int (iI (B 14 0 98 l3))]) (rest := []) ⟨hx, hb, hml, hown, hts⟩ (c_M_inKey (l := l) hc9) (va_cwS 2 hts (gdS k_12_161 k_12_162 k_1_9 k_12_163) rfl rfl rfl (by decide +kernel) ⟨Nat.le_of_ble_eq_true rfl, Nat.le_of_ble_eq_true rfl⟩) (zPS X hZ hS [.int (iI (F 13 l1 2)), .int (iI (B 14 0 98 l3))]) rfl rfl hl.1 rfl (lv_room (Nat.le_of_ble_eq_true rfl)) (D_184 W_prog_15_method_180_code_0 26 rfl rfl rfl) ⟨Nat.le_of_ble_eq_true rfl, Nat.le_of_ble_eq_true rfl⟩) hS (fun q _ h => zAin X hS q h) (zAin X hS) (fun p9 u9 t9 H9 locs9 ht9 hv9 hw9 hB9 hz9 hk9 hS9 => ?_)
        have hZ9 := zBack X ht9 hB9
        subst hw9
        refine lv_aload_n hx hb (D_42 W_prog_15_method_180_code_0 29 rfl rfl) rfl (lv_at hl 2 rfl) ?_
        refine zget (ci := 14) (C := RX14) (T := TX14) (v := .ref (ad 14 0 (99 + 1))) (k := 99) hx hb hts inW_14 hown hK hZ9 (by decide) (by decide) rfl (by decide) k_11_97 rfl (D_180 W_prog_15_method_180_code_0 30 rfl rfl rfl) ?_
        refine lv_iload_n hx hb (D_29 W_prog_15_method_180_code_32 1 rfl rfl) rfl (lv_at hl 0 rfl) ?_
        refine zald (ci := 14) (k := 99) hx hb hK rfl hZ9 (by decide) (by decide) rfl (Nat.le_of_ble_eq_true rfl) g8.1 g8.2 (D_46 W_prog_15_method_180_code_32 2 rfl rfl) ?_
        obtain ⟨g10, hf⟩ := gif hf
        obtain ⟨g11, hf⟩ := gif hf
        refine zeq (tgt := 42) hx hb g10 g11 (D_159 W_prog_15_method_180_code_32 3 rfl rfl rfl) (by decide) (fun h12 => ?_) (fun h12 => ?_)
        · replace hf := gpos hf h12
          refine lv_iconst (v := iI 0) hx hb (D_3 W_prog_15_method_180_code_32 10 rfl rfl) rfl ?_
          exact b_M_isForeign_43 X ih hf hZ9 hS9 (lv_sub hl [0, 2, 3] rfl)
        · replace hf := gneg hf h12
          exact b_M_isForeign_38 X ih hf hZ9 hS9 (lv_sub hl [0, 2, 3] rfl)

def f_M_isForeign (K : Nat) (l1 : Int) (F : zF) (B : zB) : zO := f_M_isForeign_4 K K 0 0 l1 F B
set_option maxHeartbeats 4000000 in
set_option maxRecDepth 100000 in
theorem c_M_isForeign {l : Launch} {D : va_G} {ca : Nat → ClassId} {ad : Nat → Int → Nat → Nat} {L : List Nat} {aS vS : Nat → Nat} {sz K : Nat}  {l1 : Int} {F F9 : zF} {B B9 : zB} {r : Int} (hf : f_M_isForeign K l1 F B = some (r, F9, B9)) : Met l ({ cls := "StaveHouseModel", name := "isForeign", desc := "(LStaveHouseModel$Piece;)Z" } : Jvm.MethodName) (Cond.code ({ cls := "StaveHouseModel", name := "isForeign", desc := "(LStaveHouseModel$Piece;)Z" } : Jvm.MethodName) prog_15_method_180_code 4 (Option.some Jvm.ClassFile.FieldType.boolean) :: wAll) ({ frames := 3, cells := 0, slots := 0, locals := 66 } : Room) (va_Pc [.ref (ad 14 0 0), .ref (ad 13 l1 0)] (zPre D ca ad lnM nM L aS vS F B sz)) (Q_M_isForeign D ca ad L r F9 B9 (zA L sz)) 0 0 (zA L sz) := by
  refine zMet (Qc := Q_M_isForeign D ca ad L r F9 B9) (lv := [(0, .ref (ad 14 0 0)), (1, .ref (ad 13 l1 0))]) (by decide) (Nat.le_of_ble_eq_true rfl) rfl (fun A p e s m below meth c ls X hZ hS hl => ?_)
  obtain ⟨hx, hb, hr, hml, hown, hts, hlk, hK, hA, hL, hX⟩ := id X
  replace hf : (f_M_isForeign_4 K K 0 0 l1 F B) = some (r, F9, B9) := hf
  refine lv_iconst (v := iI 0) hx hb (D_3 W_prog_15_method_180_code_0 0 rfl rfl) rfl ?_
  refine lv_istore_n (lv' := [(2, .int (iI 0)), (0, .ref (ad 14 0 0)), (1, .ref (ad 13 l1 0))]) hx hb (D_61 W_prog_15_method_180_code_0 1 rfl rfl) rfl hl (by decide) rfl (fun ls hl => ?_)
  refine lv_iconst (v := iI 0) hx hb (D_3 W_prog_15_method_180_code_0 2 rfl rfl) rfl ?_
  refine lv_istore_n (lv' := [(3, .int (iI 0)), (2, .int (iI 0)), (0, .ref (ad 14 0 0)), (1, .ref (ad 13 l1 0))]) hx hb (D_62 W_prog_15_method_180_code_0 3 rfl rfl) rfl hl (by decide) rfl (fun ls hl => ?_)
  exact b_M_isForeign_4 X hf hZ hS (lv_sub hl [0, 1, 2, 3] rfl)

