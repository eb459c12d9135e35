theorem k_13_195 : (Jvm.Cond.methodLink "StaveHouseModel" (1112 : Nat) ({ cls := "StaveHouseModel", name := "downNote", desc := "(IIZ)V" } : Jvm.MethodName)) ∈ wAll := wA_13 (j := 195) rfl rfl
theorem k_13_197 : (Jvm.Cond.instanceMethod ({ cls := "StaveHouseModel", name := "downNote", desc := "(IIZ)V" } : Jvm.MethodName)) ∈ wAll := wA_13 (j := 197) rfl rfl
theorem ks_184 : (Jvm.Cond.selects "StaveHouseModel" ({ cls := "StaveHouseModel", name := "downNote", desc := "(IIZ)V" } : Jvm.MethodName) ({ cls := "StaveHouseModel", name := "downNote", desc := "(IIZ)V" } : Jvm.MethodName)) ∈ wAll := wA_s (j := 184) rfl rfl
theorem k_13_198 : (Jvm.Cond.code ({ cls := "StaveHouseModel", name := "downNote", desc := "(IIZ)V" } : Jvm.MethodName) prog_15_method_160_code (11 : Nat) (Option.none : Option Jvm.ClassFile.FieldType)) ∈ wAll := wA_13 (j := 198) rfl rfl
theorem k_13_77 : (Jvm.Cond.methodLink "StaveHouseModel" (1063 : Nat) ({ cls := "StaveHouseModel", name := "hasSounds", desc := "(I)Z" } : Jvm.MethodName)) ∈ wAll := wA_13 (j := 77) rfl rfl
theorem k_13_79 : (Jvm.Cond.instanceMethod ({ cls := "StaveHouseModel", name := "hasSounds", desc := "(I)Z" } : Jvm.MethodName)) ∈ wAll := wA_13 (j := 79) rfl rfl
theorem ks_164 : (Jvm.Cond.selects "StaveHouseModel" ({ cls := "StaveHouseModel", name := "hasSounds", desc := "(I)Z" } : Jvm.MethodName) ({ cls := "StaveHouseModel", name := "hasSounds", desc := "(I)Z" } : Jvm.MethodName)) ∈ wAll := wA_s (j := 164) rfl rfl
theorem k_13_80 : (Jvm.Cond.code ({ cls := "StaveHouseModel", name := "hasSounds", desc := "(I)Z" } : Jvm.MethodName) prog_15_method_152_code (4 : Nat) (Option.some Jvm.ClassFile.FieldType.boolean)) ∈ wAll := wA_13 (j := 80) rfl rfl
theorem k_13_81 : (Jvm.Cond.methodLink "StaveHouseModel" (1066 : Nat) ({ cls := "StaveHouseModel", name := "trackEvents", desc := "(III)J" } : Jvm.MethodName)) ∈ wAll := wA_13 (j := 81) rfl rfl
theorem k_13_83 : (Jvm.Cond.instanceMethod ({ cls := "StaveHouseModel", name := "trackEvents", desc := "(III)J" } : Jvm.MethodName)) ∈ wAll := wA_13 (j := 83) rfl rfl
theorem ks_165 : (Jvm.Cond.selects "StaveHouseModel" ({ cls := "StaveHouseModel", name := "trackEvents", desc := "(III)J" } : Jvm.MethodName) ({ cls := "StaveHouseModel", name := "trackEvents", desc := "(III)J" } : Jvm.MethodName)) ∈ wAll := wA_s (j := 165) rfl rfl
theorem k_13_84 : (Jvm.Cond.code ({ cls := "StaveHouseModel", name := "trackEvents", desc := "(III)J" } : Jvm.MethodName) prog_15_method_154_code (18 : Nat) (Option.some Jvm.ClassFile.FieldType.long)) ∈ wAll := wA_13 (j := 84) rfl rfl
theorem k_13_107 : (Jvm.Cond.methodLink "StaveHouseModel" (1070 : Nat) ({ cls := "StaveHouseModel", name := "downHeads", desc := "()V" } : Jvm.MethodName)) ∈ wAll := wA_13 (j := 107) rfl rfl
theorem k_13_109 : (Jvm.Cond.instanceMethod ({ cls := "StaveHouseModel", name := "downHeads", desc := "()V" } : Jvm.MethodName)) ∈ wAll := wA_13 (j := 109) rfl rfl
theorem ks_170 : (Jvm.Cond.selects "StaveHouseModel" ({ cls := "StaveHouseModel", name := "downHeads", desc := "()V" } : Jvm.MethodName) ({ cls := "StaveHouseModel", name := "downHeads", desc := "()V" } : Jvm.MethodName)) ∈ wAll := wA_s (j := 170) rfl rfl
theorem k_13_110 : (Jvm.Cond.code ({ cls := "StaveHouseModel", name := "downHeads", desc := "()V" } : Jvm.MethodName) prog_15_method_158_code (1 : Nat) (Option.none : Option Jvm.ClassFile.FieldType)) ∈ wAll := wA_13 (j := 110) rfl rfl
theorem k_13_120 : (Jvm.Cond.methodLink "StaveHouseModel" (1073 : Nat) ({ cls := "StaveHouseModel", name := "downVoice", desc := "(IJI)V" } : Jvm.MethodName)) ∈ wAll := wA_13 (j := 120) rfl rfl
theorem k_13_122 : (Jvm.Cond.instanceMethod ({ cls := "StaveHouseModel", name := "downVoice", desc := "(IJI)V" } : Jvm.MethodName)) ∈ wAll := wA_13 (j := 122) rfl rfl
theorem ks_172 : (Jvm.Cond.selects "StaveHouseModel" ({ cls := "StaveHouseModel", name := "downVoice", desc := "(IJI)V" } : Jvm.MethodName) ({ cls := "StaveHouseModel", name := "downVoice", desc := "(IJI)V" } : Jvm.MethodName)) ∈ wAll := wA_s (j := 172) rfl rfl
theorem k_13_123 : (Jvm.Cond.code ({ cls := "StaveHouseModel", name := "downVoice", desc := "(IJI)V" } : Jvm.MethodName) prog_15_method_159_code (7 : Nat) (Option.none : Option Jvm.ClassFile.FieldType)) ∈ wAll := wA_13 (j := 123) rfl rfl
theorem k_14_163 : (Jvm.Cond.methodLink "StaveHouseModel" (456 : Nat) ({ cls := "StaveHouseModel", name := "opening", desc := "(I)V" } : Jvm.MethodName)) ∈ wAll := wA_14 (j := 163) rfl rfl
theorem k_14_165 : (Jvm.Cond.instanceMethod ({ cls := "StaveHouseModel", name := "opening", desc := "(I)V" } : Jvm.MethodName)) ∈ wAll := wA_14 (j := 165) rfl rfl
theorem ks_212 : (Jvm.Cond.selects "StaveHouseModel" ({ cls := "StaveHouseModel", name := "opening", desc := "(I)V" } : Jvm.MethodName) ({ cls := "StaveHouseModel", name := "opening", desc := "(I)V" } : Jvm.MethodName)) ∈ wAll := wA_s (j := 212) rfl rfl
theorem k_14_166 : (Jvm.Cond.code ({ cls := "StaveHouseModel", name := "opening", desc := "(I)V" } : Jvm.MethodName) prog_15_method_38_code (2 : Nat) (Option.none : Option Jvm.ClassFile.FieldType)) ∈ wAll := wA_14 (j := 166) rfl rfl
theorem k_14_167 : (Jvm.Cond.methodLink "StaveHouseModel" (459 : Nat) ({ cls := "StaveHouseModel", name := "item", desc := "()V" } : Jvm.MethodName)) ∈ wAll := wA_14 (j := 167) rfl rfl
theorem k_14_169 : (Jvm.Cond.instanceMethod ({ cls := "StaveHouseModel", name := "item", desc := "()V" } : Jvm.MethodName)) ∈ wAll := wA_14 (j := 169) rfl rfl
theorem ks_213 : (Jvm.Cond.selects "StaveHouseModel" ({ cls := "StaveHouseModel", name := "item", desc := "()V" } : Jvm.MethodName) ({ cls := "StaveHouseModel", name := "item", desc := "()V" } : Jvm.MethodName)) ∈ wAll := wA_s (j := 213) rfl rfl
theorem k_14_170 : (Jvm.Cond.code ({ cls := "StaveHouseModel", name := "item", desc := "()V" } : Jvm.MethodName) prog_15_method_46_code (2 : Nat) (Option.none : Option Jvm.ClassFile.FieldType)) ∈ wAll := wA_14 (j := 170) rfl rfl
theorem k_14_191 : (Jvm.Cond.methodLink "StaveHouseModel" (462 : Nat) ({ cls := "StaveHouseModel", name := "closing", desc := "(II)V" } : Jvm.MethodName)) ∈ wAll := wA_14 (j := 191) rfl rfl
theorem k_14_193 : (Jvm.Cond.instanceMethod ({ cls := "StaveHouseModel", name := "closing", desc := "(II)V" } : Jvm.MethodName)) ∈ wAll := wA_14 (j := 193) rfl rfl
theorem ks_219 : (Jvm.Cond.selects "StaveHouseModel" ({ cls := "StaveHouseModel", name := "closing", desc := "(II)V" } : Jvm.MethodName) ({ cls := "StaveHouseModel", name := "closing", desc := "(II)V" } : Jvm.MethodName)) ∈ wAll := wA_s (j := 219) rfl rfl
theorem k_14_194 : (Jvm.Cond.code ({ cls := "StaveHouseModel", name := "closing", desc := "(II)V" } : Jvm.MethodName) prog_15_method_39_code (3 : Nat) (Option.none : Option Jvm.ClassFile.FieldType)) ∈ wAll := wA_14 (j := 194) rfl rfl
theorem k_14_195 : (Jvm.Cond.methodLink "StaveHouseModel" (476 : Nat) ({ cls := "StaveHouseModel", name := "itemOfWord", desc := "()V" } : Jvm.MethodName)) ∈ wAll := wA_14 (j := 195) rfl rfl
theorem k_14_197 : (Jvm.Cond.instanceMethod ({ cls := "StaveHouseModel", name := "itemOfWord", desc := "()V" } : Jvm.MethodName)) ∈ wAll := wA_14 (j := 197) rfl rfl
theorem ks_220 : (Jvm.Cond.selects "StaveHouseModel" ({ cls := "StaveHouseModel", name := "itemOfWord", desc := "()V" } : Jvm.MethodName) ({ cls := "StaveHouseModel", name := "itemOfWord", desc := "()V" } : Jvm.MethodName)) ∈ wAll := wA_s (j := 220) rfl rfl
theorem k_14_198 : (Jvm.Cond.code ({ cls := "StaveHouseModel", name := "itemOfWord", desc := "()V" } : Jvm.MethodName) prog_15_method_49_code (4 : Nat) (Option.none : Option Jvm.ClassFile.FieldType)) ∈ wAll := wA_14 (j := 198) rfl rfl
theorem k_14_187 : (Jvm.Cond.methodLink "StaveHouseModel" (473 : Nat) ({ cls := "StaveHouseModel", name := "tuplet", desc := "()V" } : Jvm.MethodName)) ∈ wAll := wA_14 (j := 187) rfl rfl
theorem k_14_189 : (Jvm.Cond.instanceMethod ({ cls := "StaveHouseModel", name := "tuplet", desc := "()V" } : Jvm.MethodName)) ∈ wAll := wA_14 (j := 189) rfl rfl
theorem ks_218 : (Jvm.Cond.selects "StaveHouseModel" ({ cls := "StaveHouseModel", name := "tuplet", desc := "()V" } : Jvm.MethodName) ({ cls := "StaveHouseModel", name := "tuplet", desc := "()V" } : Jvm.MethodName)) ∈ wAll := wA_s (j := 218) rfl rfl
theorem k_14_190 : (Jvm.Cond.code ({ cls := "StaveHouseModel", name := "tuplet", desc := "()V" } : Jvm.MethodName) prog_15_method_48_code (2 : Nat) (Option.none : Option Jvm.ClassFile.FieldType)) ∈ wAll := wA_14 (j := 190) rfl rfl
theorem k_14_183 : (Jvm.Cond.methodLink "StaveHouseModel" (470 : Nat) ({ cls := "StaveHouseModel", name := "chord", desc := "()V" } : Jvm.MethodName)) ∈ wAll := wA_14 (j := 183) rfl rfl
theorem k_14_185 : (Jvm.Cond.instanceMethod ({ cls := "StaveHouseModel", name := "chord", desc := "()V" } : Jvm.MethodName)) ∈ wAll := wA_14 (j := 185) rfl rfl
theorem ks_217 : (Jvm.Cond.selects "StaveHouseModel" ({ cls := "StaveHouseModel", name := "chord", desc := "()V" } : Jvm.MethodName) ({ cls := "StaveHouseModel", name := "chord", desc := "()V" } : Jvm.MethodName)) ∈ wAll := wA_s (j := 217) rfl rfl
theorem k_14_186 : (Jvm.Cond.code ({ cls := "StaveHouseModel", name := "chord", desc := "()V" } : Jvm.MethodName) prog_15_method_47_code (2 : Nat) (Option.none : Option Jvm.ClassFile.FieldType)) ∈ wAll := wA_14 (j := 186) rfl rfl
theorem k_14_171 : (Jvm.Cond.methodLink "StaveHouseModel" (465 : Nat) ({ cls := "StaveHouseModel", name := "length", desc := "(I)V" } : Jvm.MethodName)) ∈ wAll := wA_14 (j := 171) rfl rfl
theorem k_14_173 : (Jvm.Cond.instanceMethod ({ cls := "StaveHouseModel", name := "length", desc := "(I)V" } : Jvm.MethodName)) ∈ wAll := wA_14 (j := 173) rfl rfl
theorem ks_214 : (Jvm.Cond.selects "StaveHouseModel" ({ cls := "StaveHouseModel", name := "length", desc := "(I)V" } : Jvm.MethodName) ({ cls := "StaveHouseModel", name := "length", desc := "(I)V" } : Jvm.MethodName)) ∈ wAll := wA_s (j := 214) rfl rfl
theorem k_14_174 : (Jvm.Cond.code ({ cls := "StaveHouseModel", name := "length", desc := "(I)V" } : Jvm.MethodName) prog_15_method_50_code (4 : Nat) (Option.none : Option Jvm.ClassFile.FieldType)) ∈ wAll := wA_14 (j := 174) rfl rfl
theorem k_14_175 : (Jvm.Cond.methodLink "StaveHouseModel" (467 : Nat) ({ cls := "StaveHouseModel", name := "marks", desc := "(I)V" } : Jvm.MethodName)) ∈ wAll := wA_14 (j := 175) rfl rfl
theorem k_14_177 : (Jvm.Cond.instanceMethod ({ cls := "StaveHouseModel", name := "marks", desc := "(I)V" } : Jvm.MethodName)) ∈ wAll := wA_14 (j := 177) rfl rfl
theorem ks_215 : (Jvm.Cond.selects "StaveHouseModel" ({ cls := "StaveHouseModel", name := "marks", desc := "(I)V" } : Jvm.MethodName) ({ cls := "StaveHouseModel", name := "marks", desc := "(I)V" } : Jvm.MethodName)) ∈ wAll := wA_s (j := 215) rfl rfl
theorem k_14_178 : (Jvm.Cond.code ({ cls := "StaveHouseModel", name := "marks", desc := "(I)V" } : Jvm.MethodName) prog_15_method_52_code (2 : Nat) (Option.none : Option Jvm.ClassFile.FieldType)) ∈ wAll := wA_14 (j := 178) rfl rfl
theorem k_11_29 : (Jvm.Cond.fieldLink "StaveHouseModel" (162 : Nat) "StaveHouseModel" "behind" "[I") ∈ wAll := wA_11 (j := 29) rfl rfl
theorem k_10_235 : (Jvm.Cond.fieldLink "StaveHouseModel" (141 : Nat) "StaveHouseModel" "REST" "J") ∈ wAll := wA_10 (j := 235) rfl rfl
theorem k_10_221 : (Jvm.Cond.fieldLink "StaveHouseModel" (120 : Nat) "StaveHouseModel" "REPEAT" "J") ∈ wAll := wA_10 (j := 221) rfl rfl
theorem k_10_225 : (Jvm.Cond.fieldLink "StaveHouseModel" (126 : Nat) "StaveHouseModel" "USE" "J") ∈ wAll := wA_10 (j := 225) rfl rfl
theorem k_10_227 : (Jvm.Cond.fieldLink "StaveHouseModel" (129 : Nat) "StaveHouseModel" "MOVE" "J") ∈ wAll := wA_10 (j := 227) rfl rfl
theorem k_10_229 : (Jvm.Cond.fieldLink "StaveHouseModel" (132 : Nat) "StaveHouseModel" "MIRROR" "J") ∈ wAll := wA_10 (j := 229) rfl rfl
theorem k_10_231 : (Jvm.Cond.fieldLink "StaveHouseModel" (135 : Nat) "StaveHouseModel" "BACK" "J") ∈ wAll := wA_10 (j := 231) rfl rfl
theorem k_10_233 : (Jvm.Cond.fieldLink "StaveHouseModel" (138 : Nat) "StaveHouseModel" "SLOW" "J") ∈ wAll := wA_10 (j := 233) rfl rfl
theorem k_14_159 : (Jvm.Cond.methodLink "StaveHouseModel" (442 : Nat) ({ cls := "StaveHouseModel", name := "block", desc := "()V" } : Jvm.MethodName)) ∈ wAll := wA_14 (j := 159) rfl rfl
theorem k_14_161 : (Jvm.Cond.instanceMethod ({ cls := "StaveHouseModel", name := "block", desc := "()V" } : Jvm.MethodName)) ∈ wAll := wA_14 (j := 161) rfl rfl
theorem ks_211 : (Jvm.Cond.selects "StaveHouseModel" ({ cls := "StaveHouseModel", name := "block", desc := "()V" } : Jvm.MethodName) ({ cls := "StaveHouseModel", name := "block", desc := "()V" } : Jvm.MethodName)) ∈ wAll := wA_s (j := 211) rfl rfl
theorem k_14_162 : (Jvm.Cond.code ({ cls := "StaveHouseModel", name := "block", desc := "()V" } : Jvm.MethodName) prog_15_method_45_code (2 : Nat) (Option.none : Option Jvm.ClassFile.FieldType)) ∈ wAll := wA_14 (j := 162) rfl rfl
theorem k_14_152 : (Jvm.Cond.methodLink "StaveHouseModel" (433 : Nat) ({ cls := "StaveHouseModel", name := "isName", desc := "()Z" } : Jvm.MethodName)) ∈ wAll := wA_14 (j := 152) rfl rfl
theorem k_14_154 : (Jvm.Cond.instanceMethod ({ cls := "StaveHouseModel", name := "isName", desc := "()Z" } : Jvm.MethodName)) ∈ wAll := wA_14 (j := 154) rfl rfl
theorem ks_210 : (Jvm.Cond.selects "StaveHouseModel" ({ cls := "StaveHouseModel", name := "isName", desc := "()Z" } : Jvm.MethodName) ({ cls := "StaveHouseModel", name := "isName", desc := "()Z" } : Jvm.MethodName)) ∈ wAll := wA_s (j := 210) rfl rfl
theorem k_14_155 : (Jvm.Cond.code ({ cls := "StaveHouseModel", name := "isName", desc := "()Z" } : Jvm.MethodName) prog_15_method_35_code (1 : Nat) (Option.some Jvm.ClassFile.FieldType.boolean)) ∈ wAll := wA_14 (j := 155) rfl rfl
theorem k_11_23 : (Jvm.Cond.fieldLink "StaveHouseModel" (147 : Nat) "StaveHouseModel" "letName" "[J") ∈ wAll := wA_11 (j := 23) rfl rfl
theorem k_11_25 : (Jvm.Cond.fieldLink "StaveHouseModel" (392 : Nat) "StaveHouseModel" "lets" "I") ∈ wAll := wA_11 (j := 25) rfl rfl
theorem k_10_223 : (Jvm.Cond.fieldLink "StaveHouseModel" (123 : Nat) "StaveHouseModel" "ALT" "J") ∈ wAll := wA_10 (j := 223) rfl rfl
theorem k_11_24 : (Jvm.Cond.fieldLink "StaveHouseModel" (150 : Nat) "StaveHouseModel" "letOpen" "[I") ∈ wAll := wA_11 (j := 24) rfl rfl
theorem k_11_27 : (Jvm.Cond.fieldLink "StaveHouseModel" (156 : Nat) "StaveHouseModel" "voiceOpen" "[I") ∈ wAll := wA_11 (j := 27) rfl rfl
theorem W_prog_15_method_159_code_0 : chW prog_15_method_159_code 0 [42, 19, 4, 80, 182, 3, 203, 42, 16, 97, 27, 96, 182, 3, 196, 42, 42, 180, 0, 44, 180, 1, 195, 27, 46, 154, 0, 9, 19, 4, 82, 167, 0, 6, 19, 4] := chW_of (by decide +kernel)
theorem W_prog_15_method_159_code_32 : chW prog_15_method_159_code 32 [0, 6, 19, 4, 84, 182, 3, 203, 42, 42, 180, 0, 44, 180, 1, 198, 27, 46, 182, 4, 69, 42, 19, 4, 86, 182, 3, 203, 42, 16, 10, 182, 3, 196, 42, 42] := chW_of (by decide +kernel)
theorem W_prog_15_method_159_code_64 : chW prog_15_method_159_code 64 [3, 196, 42, 42, 180, 0, 44, 27, 182, 2, 126, 42, 180, 0, 9, 42, 180, 0, 13, 32, 21, 4, 133, 184, 2, 25, 156, 0, 119, 42, 32, 21, 4, 133, 42, 180] := chW_of (by decide +kernel)
theorem W_prog_15_method_159_code_96 : chW prog_15_method_159_code 96 [4, 133, 42, 180, 0, 9, 42, 180, 0, 13, 182, 2, 152, 17, 3, 232, 27, 104, 42, 180, 0, 44, 180, 2, 3, 27, 46, 96, 54, 5, 42, 180, 0, 44, 180, 2] := chW_of (by decide +kernel)
theorem W_prog_15_method_159_code_128 : chW prog_15_method_159_code 128 [0, 44, 180, 2, 3, 27, 92, 46, 4, 96, 79, 42, 180, 0, 44, 180, 2, 15, 21, 5, 42, 180, 0, 9, 80, 42, 180, 0, 44, 180, 2, 18, 21, 5, 42, 180] := chW_of (by decide +kernel)
theorem W_prog_15_method_159_code_160 : chW prog_15_method_159_code 160 [21, 5, 42, 180, 0, 13, 80, 42, 180, 0, 44, 180, 2, 72, 21, 5, 3, 79, 42, 180, 0, 44, 180, 2, 89, 21, 5, 3, 79, 42, 180, 0, 44, 180, 2, 86] := chW_of (by decide +kernel)
theorem W_prog_15_method_159_code_192 : chW prog_15_method_159_code 192 [44, 180, 2, 86, 21, 5, 3, 79, 42, 42, 180, 0, 44, 27, 182, 2, 126, 42, 42, 180, 0, 44, 27, 3, 182, 2, 140, 54, 5, 21, 5, 17, 3, 32, 164, 0] := chW_of (by decide +kernel)
theorem W_prog_15_method_159_code_224 : chW prog_15_method_159_code 224 [3, 32, 164, 0, 10, 42, 17, 11, 185, 181, 3, 193, 3, 54, 6, 21, 6, 21, 5, 162, 0, 40, 42, 180, 3, 193, 17, 11, 184, 163, 0, 30, 42, 27, 21, 6] := chW_of (by decide +kernel)
theorem W_prog_15_method_159_code_256 : chW prog_15_method_159_code 256 [42, 27, 21, 6, 21, 6, 4, 96, 21, 5, 160, 0, 7, 4, 167, 0, 4, 3, 182, 4, 88, 132, 6, 1, 167, 255, 215, 42, 16, 125, 182, 3, 196, 42, 16, 10] := chW_of (by decide +kernel)
theorem d_15_159_277 : decode prog_15_method_159_code 277 = .ok (.iinc 6 1, 3) := D_132 W_prog_15_method_159_code_256 21 rfl rfl rfl
theorem W_prog_15_method_159_code_288 : chW prog_15_method_159_code 288 [196, 42, 16, 10, 182, 3, 196, 177] := chW_of (by decide +kernel)
theorem W_prog_15_method_153_code_0 : chW prog_15_method_153_code 0 [42, 180, 4, 21, 153, 0, 36, 42, 180, 0, 230, 16, 7, 46, 153, 0, 26, 27, 7, 159, 0, 23, 27, 16, 8, 159, 0, 17, 27, 16, 16, 159, 0, 11, 27, 16] := chW_of (by decide +kernel)
theorem W_prog_15_method_153_code_32 : chW prog_15_method_153_code 32 [0, 11, 27, 16, 32, 159, 0, 5, 2, 172, 42, 3, 181, 3, 193, 42, 180, 0, 44, 3, 181, 1, 48, 42, 180, 0, 44, 42, 180, 0, 230, 5, 46, 181, 1, 54] := chW_of (by decide +kernel)
theorem W_prog_15_method_153_code_64 : chW prog_15_method_153_code 64 [46, 181, 1, 54, 42, 180, 0, 44, 42, 180, 0, 230, 6, 46, 4, 160, 0, 7, 4, 167, 0, 4, 3, 181, 1, 57, 42, 180, 0, 44, 42, 180, 0, 230, 7, 46] := chW_of (by decide +kernel)
theorem W_prog_15_method_153_code_96 : chW prog_15_method_153_code 96 [0, 230, 7, 46, 181, 1, 148, 42, 180, 0, 44, 42, 180, 0, 230, 8, 46, 181, 1, 151, 9, 65, 3, 54, 4, 21, 4, 42, 180, 0, 230, 3, 46, 162, 0, 71] := chW_of (by decide +kernel)
theorem W_prog_15_method_153_code_128 : chW prog_15_method_153_code 128 [46, 162, 0, 71, 42, 180, 0, 44, 180, 1, 48, 7, 162, 0, 60, 42, 21, 4, 182, 4, 39, 154, 0, 6, 167, 0, 42, 42, 21, 4, 42, 180, 0, 44, 180, 1] := chW_of (by decide +kernel)
theorem W_prog_15_method_153_code_160 : chW prog_15_method_153_code 160 [0, 44, 180, 1, 48, 27, 182, 4, 42, 55, 5, 22, 5, 32, 148, 158, 0, 6, 22, 5, 65, 42, 180, 0, 44, 89, 180, 1, 48, 4, 96, 181, 1, 48, 132, 4] := chW_of (by decide +kernel)
theorem W_prog_15_method_153_code_192 : chW prog_15_method_153_code 192 [1, 48, 132, 4, 1, 167, 255, 180, 32, 27, 133, 20, 2, 114, 42, 180, 0, 44, 180, 1, 148, 133, 105, 42, 180, 0, 44, 180, 1, 151, 133, 184, 2, 25, 157, 0] := chW_of (by decide +kernel)
theorem d_15_153_194 : decode prog_15_method_153_code 194 = .ok (.iinc 4 1, 3) := D_132 W_prog_15_method_153_code_192 2 rfl rfl rfl
theorem W_prog_15_method_153_code_224 : chW prog_15_method_153_code 224 [2, 25, 157, 0, 7, 4, 167, 0, 4, 3, 54, 4, 21, 4, 153, 0, 46, 42, 182, 4, 46, 3, 54, 5, 21, 5, 42, 180, 0, 44, 180, 1, 48, 162, 0, 27] := chW_of (by decide +kernel)
theorem W_prog_15_method_153_code_256 : chW prog_15_method_153_code 256 [48, 162, 0, 27, 42, 180, 3, 193, 17, 11, 184, 163, 0, 17, 42, 21, 5, 32, 27, 182, 4, 49, 132, 5, 1, 167, 255, 223, 21, 4, 153, 0, 18, 42, 180, 3] := chW_of (by decide +kernel)
theorem d_15_153_278 : decode prog_15_method_153_code 278 = .ok (.iinc 5 1, 3) := D_132 W_prog_15_method_153_code_256 22 rfl rfl rfl
theorem W_prog_15_method_153_code_288 : chW prog_15_method_153_code 288 [18, 42, 180, 3, 193, 17, 11, 184, 163, 0, 8, 42, 180, 3, 193, 172, 42, 3, 181, 3, 193, 16, 254, 172] := chW_of (by decide +kernel)
theorem W_prog_15_method_45_code_0 : chW prog_15_method_45_code 0 [42, 180, 1, 106, 60, 42, 16, 123, 182, 1, 200, 42, 182, 1, 120, 153, 0, 19, 42, 16, 125, 182, 1, 124, 154, 0, 10, 42, 182, 1, 203, 167, 255, 236, 42, 27] := chW_of (by decide +kernel)
theorem W_prog_15_method_45_code_32 : chW prog_15_method_45_code 32 [255, 236, 42, 27, 16, 125, 182, 1, 206, 177] := chW_of (by decide +kernel)
theorem W_prog_15_method_46_code_0 : chW prog_15_method_46_code 0 [42, 180, 1, 106, 60, 42, 180, 0, 48, 42, 180, 1, 106, 46, 5, 160, 0, 26, 42, 89, 180, 1, 106, 4, 96, 181, 1, 106, 42, 27, 182, 1, 209, 42, 27, 182] := chW_of (by decide +kernel)
theorem W_prog_15_method_46_code_32 : chW prog_15_method_46_code 32 [209, 42, 27, 182, 1, 211, 167, 0, 164, 42, 16, 60, 182, 1, 124, 153, 0, 20, 42, 182, 1, 214, 42, 27, 182, 1, 209, 42, 27, 182, 1, 211, 167, 0, 138, 42] := chW_of (by decide +kernel)
theorem W_prog_15_method_46_code_64 : chW prog_15_method_46_code 64 [167, 0, 138, 42, 16, 124, 182, 1, 124, 153, 0, 16, 42, 89, 180, 1, 106, 4, 96, 181, 1, 106, 167, 0, 116, 42, 16, 33, 182, 1, 124, 153, 0, 67, 42, 89] := chW_of (by decide +kernel)
theorem W_prog_15_method_46_code_160 : chW prog_15_method_46_code 160 [0, 43, 42, 16, 91, 182, 1, 124, 153, 0, 10, 42, 182, 1, 217, 167, 0, 27, 42, 180, 0, 48, 42, 180, 1, 106, 46, 7, 160, 0, 10, 42, 182, 1, 220, 167] := chW_of (by decide +kernel)
theorem W_prog_15_method_46_code_192 : chW prog_15_method_46_code 192 [182, 1, 220, 167, 0, 7, 42, 182, 1, 127, 42, 180, 0, 162, 27, 42, 180, 1, 106, 79, 177] := chW_of (by decide +kernel)
theorem W_prog_15_method_46_code_96 : chW prog_15_method_46_code 96 [0, 67, 42, 89, 180, 1, 106, 4, 96, 181, 1, 106, 42, 180, 0, 48, 42, 180, 1, 106, 46, 7, 160, 0, 24, 42, 180, 0, 96, 16, 8, 42, 180, 0, 61, 42] := chW_of (by decide +kernel)
theorem W_prog_15_method_46_code_128 : chW prog_15_method_46_code 128 [180, 0, 61, 42, 180, 1, 106, 47, 184, 1, 116, 156, 0, 10, 42, 182, 1, 127, 167, 0, 56, 42, 89, 180, 1, 106, 4, 96, 181, 1, 106, 167, 0, 43, 42, 16] := chW_of (by decide +kernel)
theorem W_prog_15_method_48_code_0 : chW prog_15_method_48_code 0 [42, 180, 1, 106, 60, 42, 16, 91, 182, 1, 200, 42, 5, 16, 9, 3, 182, 1, 170, 87, 42, 16, 47, 182, 1, 133, 42, 4, 16, 9, 3, 182, 1, 170, 87, 42] := chW_of (by decide +kernel)
theorem W_prog_15_method_48_code_32 : chW prog_15_method_48_code 32 [1, 170, 87, 42, 16, 58, 182, 1, 133, 42, 182, 1, 120, 153, 0, 19, 42, 16, 93, 182, 1, 124, 154, 0, 10, 42, 182, 1, 203, 167, 255, 236, 42, 27, 16, 93] := chW_of (by decide +kernel)
theorem W_prog_15_method_48_code_64 : chW prog_15_method_48_code 64 [42, 27, 16, 93, 182, 1, 206, 177] := chW_of (by decide +kernel)
theorem W_prog_15_method_49_code_0 : chW prog_15_method_49_code 0 [42, 180, 1, 106, 60, 42, 178, 0, 141, 182, 1, 157, 153, 0, 28, 42, 89, 180, 1, 106, 4, 96, 181, 1, 106, 42, 180, 0, 171, 27, 3, 79, 42, 27, 182, 1] := chW_of (by decide +kernel)
theorem W_prog_15_method_49_code_32 : chW prog_15_method_49_code 32 [42, 27, 182, 1, 209, 167, 1, 96, 42, 178, 0, 120, 182, 1, 157, 153, 0, 79, 42, 89, 180, 1, 106, 4, 96, 181, 1, 106, 42, 5, 7, 3, 182, 1, 170, 87] := chW_of (by decide +kernel)
theorem W_prog_15_method_49_code_96 : chW prog_15_method_49_code 96 [181, 1, 106, 42, 182, 1, 186, 42, 182, 1, 120, 153, 1, 26, 42, 16, 123, 182, 1, 124, 153, 1, 17, 42, 182, 1, 186, 167, 255, 236, 42, 178, 0, 126, 182, 1] := chW_of (by decide +kernel)
theorem W_prog_15_method_49_code_128 : chW prog_15_method_49_code 128 [0, 126, 182, 1, 157, 153, 0, 71, 42, 89, 180, 1, 106, 4, 96, 181, 1, 106, 42, 182, 1, 177, 154, 0, 10, 42, 182, 1, 127, 167, 0, 232, 42, 180, 0, 147] := chW_of (by decide +kernel)
theorem W_prog_15_method_49_code_192 : chW prog_15_method_49_code 192 [89, 180, 1, 106, 4, 96, 181, 1, 106, 167, 0, 188, 42, 178, 0, 129, 182, 1, 157, 154, 0, 13, 42, 178, 0, 132, 182, 1, 157, 153, 0, 86, 42, 178, 0, 129] := chW_of (by decide +kernel)
theorem W_prog_15_method_49_code_288 : chW prog_15_method_49_code 288 [0, 7, 42, 182, 1, 127, 132, 3, 1, 167, 255, 211, 42, 182, 1, 186, 167, 0, 85, 42, 178, 0, 135, 182, 1, 157, 153, 0, 20, 42, 89, 180, 1, 106, 4, 96] := chW_of (by decide +kernel)
theorem W_prog_15_method_49_code_320 : chW prog_15_method_49_code 320 [1, 106, 4, 96, 181, 1, 106, 42, 182, 1, 186, 167, 0, 58, 42, 178, 0, 138, 182, 1, 157, 153, 0, 44, 42, 89, 180, 1, 106, 4, 96, 181, 1, 106, 42, 4] := chW_of (by decide +kernel)
theorem W_prog_15_method_49_code_384 : chW prog_15_method_49_code 384 [7, 42, 182, 1, 127, 177] := chW_of (by decide +kernel)
theorem W_prog_15_method_49_code_352 : chW prog_15_method_49_code 352 [1, 106, 42, 4, 16, 8, 3, 182, 1, 170, 87, 42, 16, 47, 182, 1, 133, 42, 4, 16, 8, 3, 182, 1, 170, 87, 42, 182, 1, 186, 167, 0, 7, 42, 182, 1] := chW_of (by decide +kernel)
theorem W_prog_15_method_49_code_160 : chW prog_15_method_49_code 160 [42, 180, 0, 147, 42, 180, 1, 136, 42, 180, 0, 61, 42, 180, 1, 106, 47, 184, 1, 116, 156, 0, 11, 42, 7, 182, 1, 112, 167, 0, 201, 42, 89, 180, 1, 106] := chW_of (by decide +kernel)
theorem W_prog_15_method_49_code_64 : chW prog_15_method_49_code 64 [182, 1, 170, 87, 42, 182, 1, 186, 42, 182, 1, 120, 153, 1, 57, 42, 178, 0, 123, 182, 1, 157, 153, 1, 47, 42, 89, 180, 1, 106, 4, 96, 181, 1, 106, 42] := chW_of (by decide +kernel)
theorem W_prog_15_method_49_code_224 : chW prog_15_method_49_code 224 [42, 178, 0, 129, 182, 1, 157, 153, 0, 7, 5, 167, 0, 4, 4, 61, 42, 89, 180, 1, 106, 4, 96, 181, 1, 106, 3, 62, 29, 28, 162, 0, 46, 42, 182, 1] := chW_of (by decide +kernel)
theorem W_prog_15_method_49_code_256 : chW prog_15_method_49_code 256 [46, 42, 182, 1, 120, 153, 0, 39, 42, 180, 0, 48, 42, 180, 1, 106, 46, 5, 160, 0, 16, 42, 89, 180, 1, 106, 4, 96, 181, 1, 106, 167, 0, 7, 42, 182] := chW_of (by decide +kernel)
theorem d_15_49_294 : decode prog_15_method_49_code 294 = .ok (.iinc 3 1, 3) := D_132 W_prog_15_method_49_code_288 6 rfl rfl rfl
theorem W_prog_15_method_43_code_0 : chW prog_15_method_43_code 0 [42, 180, 1, 136, 16, 6, 160, 0, 8, 42, 182, 1, 127, 177, 42, 89, 180, 1, 106, 4, 96, 181, 1, 106, 42, 182, 1, 177, 154, 0, 10, 42, 182, 1, 127, 167] := chW_of (by decide +kernel)
theorem W_prog_15_method_43_code_32 : chW prog_15_method_43_code 32 [182, 1, 127, 167, 0, 31, 42, 180, 0, 147, 42, 180, 1, 136, 42, 180, 0, 61, 42, 180, 1, 106, 47, 184, 1, 116, 155, 0, 8, 42, 7, 182, 1, 112, 42, 182] := chW_of (by decide +kernel)
theorem W_prog_15_method_43_code_64 : chW prog_15_method_43_code 64 [1, 112, 42, 182, 1, 120, 154, 0, 4, 177, 42, 180, 0, 147, 42, 180, 1, 136, 42, 180, 0, 61, 42, 180, 1, 106, 47, 80, 42, 89, 180, 1, 106, 4, 96, 181] := chW_of (by decide +kernel)
theorem W_prog_15_method_43_code_96 : chW prog_15_method_43_code 96 [106, 4, 96, 181, 1, 106, 42, 16, 61, 182, 1, 133, 42, 180, 0, 150, 42, 180, 1, 136, 42, 180, 1, 106, 79, 42, 7, 181, 1, 180, 42, 3, 181, 1, 183, 42] := chW_of (by decide +kernel)
theorem W_prog_15_method_43_code_128 : chW prog_15_method_43_code 128 [181, 1, 183, 42, 182, 1, 186, 42, 89, 180, 1, 136, 4, 96, 181, 1, 136, 177] := chW_of (by decide +kernel)
theorem W_prog_15_method_44_code_0 : chW prog_15_method_44_code 0 [42, 180, 0, 44, 180, 1, 48, 60, 42, 180, 0, 153, 27, 42, 180, 1, 106, 79, 42, 89, 180, 1, 106, 4, 96, 181, 1, 106, 42, 182, 1, 177, 154, 0, 10, 42] := chW_of (by decide +kernel)
theorem W_prog_15_method_44_code_32 : chW prog_15_method_44_code 32 [154, 0, 10, 42, 182, 1, 127, 167, 0, 31, 42, 180, 0, 44, 180, 1, 189, 27, 42, 180, 0, 61, 42, 180, 1, 106, 47, 184, 1, 116, 155, 0, 8, 42, 7, 182] := chW_of (by decide +kernel)
theorem W_prog_15_method_44_code_64 : chW prog_15_method_44_code 64 [8, 42, 7, 182, 1, 112, 42, 182, 1, 120, 154, 0, 4, 177, 42, 180, 0, 44, 180, 1, 189, 27, 42, 180, 0, 61, 42, 180, 1, 106, 47, 80, 3, 61, 42, 180] := chW_of (by decide +kernel)
theorem W_prog_15_method_44_code_96 : chW prog_15_method_44_code 96 [3, 61, 42, 180, 0, 61, 42, 180, 1, 106, 47, 66, 33, 9, 148, 158, 0, 14, 132, 2, 1, 33, 16, 8, 123, 66, 167, 255, 242, 42, 180, 0, 44, 180, 1, 192] := chW_of (by decide +kernel)
theorem W_prog_15_method_44_code_128 : chW prog_15_method_44_code 128 [44, 180, 1, 192, 27, 28, 79, 42, 89, 180, 1, 106, 4, 96, 181, 1, 106, 42, 180, 0, 44, 180, 1, 195, 27, 42, 180, 0, 48, 42, 180, 1, 106, 46, 7, 160] := chW_of (by decide +kernel)
theorem W_prog_15_method_44_code_160 : chW prog_15_method_44_code 160 [106, 46, 7, 160, 0, 23, 42, 180, 0, 77, 7, 42, 180, 0, 61, 42, 180, 1, 106, 47, 184, 1, 116, 167, 0, 4, 2, 79, 42, 180, 0, 44, 180, 1, 195, 27] := chW_of (by decide +kernel)
theorem d_15_44_114 : decode prog_15_method_44_code 114 = .ok (.iinc 2 1, 3) := D_132 W_prog_15_method_44_code_96 18 rfl rfl rfl
theorem W_prog_15_method_44_code_192 : chW prog_15_method_44_code 192 [180, 1, 195, 27, 46, 156, 0, 10, 42, 182, 1, 127, 167, 0, 13, 42, 89, 180, 1, 106, 4, 96, 181, 1, 106, 42, 180, 0, 44, 180, 1, 198, 27, 42, 3, 6] := chW_of (by decide +kernel)
theorem W_prog_15_method_44_code_224 : chW prog_15_method_44_code 224 [27, 42, 3, 6, 3, 182, 1, 170, 79, 42, 180, 0, 156, 27, 42, 180, 1, 106, 79, 42, 7, 181, 1, 180, 42, 3, 181, 1, 183, 42, 182, 1, 186, 42, 180, 0] := chW_of (by decide +kernel)
theorem W_prog_15_method_44_code_256 : chW prog_15_method_44_code 256 [186, 42, 180, 0, 44, 89, 180, 1, 48, 4, 96, 181, 1, 48, 177] := chW_of (by decide +kernel)
abbrev Q_M_downVoice (D : va_G) (ca : Nat → ClassId) (ad : Nat → Int → Nat → Nat) (L : List Nat) (r : Int) (F : zF) (B : zB) (A : Nat → Prop) : Array Value → State → Outcome → State → Prop := va_Qv (S := Unit) (fun _ => True) (fun _ => zPo D ca ad lnM nM L F B A) A
def f_M_downVoice_283 (K : Nat)  (F : zF) (B : zB) : zO := zbind (f_M_put_0 K 125 F B) (fun r43 F43 B43 => zbind (f_M_put_0 K 10 F43 B43) (fun r44 F44 B44 => some (0, F44, B44)))
set_option maxHeartbeats 4000000 in
set_option maxRecDepth 100000 in
theorem b_M_downVoice_283 {D : va_G} {ca : Nat → ClassId} {ad : Nat → Int → Nat → Nat} {L : List Nat} {aS vS : Nat → Nat} {A : Nat → Prop} {p : Program} {l : Launch} {e : Env} {s : State} {m : MethodId} {args : Array Value} {below : List Frame} {meth : Method} {c : Code} {K : Nat} {r : Int} {F9 : zF} {B9 : zB} (X : zX D ca L aS vS A p s m args meth c prog_15_method_159_code 7 (Option.none : Option Jvm.ClassFile.FieldType) "StaveHouseModel")  {F : zF} {B : zB} {H : Heap} {locs : List Loc} {ls : Array Slot} (hf : f_M_downVoice_283 K  F B = some (r, F9, B9)) (hZ : zH D ca ad lnM nM L F B A H) (hS : va_S A s.heap H locs) (hl : lv_has ls 7 [(0, .ref (ad 14 0 0))]) : W p l e ({ frames := 9, cells := 0, slots := 0, locals := 305 } : Room) s m args below meth c H locs 0 0 (MQ below (Q_M_downVoice D ca ad L r F9 B9 A) args s 0 0 A) (F0 m 283 ls []) := by
  obtain ⟨hx, hb, hr, hml, hown, hts, hlk, hK, hA, hL, hX⟩ := id X
  replace hf : (zbind (f_M_put_0 K 125 F B) (fun r43 F43 B43 => zbind (f_M_put_0 K 10 F43 B43) (fun r44 F44 B44 => some (0, F44, B44)))) = some (r, F9, B9) := hf
  refine lv_aload_n hx hb (D_42 W_prog_15_method_159_code_256 27 rfl rfl) rfl (lv_at hl 0 rfl) ?_
  refine lv_bipush (v := iI 125) hx hb (D_16 W_prog_15_method_159_code_256 28 rfl rfl rfl) (by decide) ?_
  obtain ⟨r43, F43, B43, hc43, hf⟩ := gbind hf
  refine va_callv (va_runV (As := [.int (iI 125)]) (rest := []) ⟨hx, hb, hml, hown, hts⟩ (c_M_put_0 (l := l) hc43) (cwV 1 hts (gdV k_12_199 k_12_201 ks_142 k_1_9 k_12_202) rfl rfl rfl (by decide +kernel) ⟨Nat.le_of_ble_eq_true rfl, Nat.le_of_ble_eq_true rfl⟩) (zPV X hZ hS (ci := 14) (by decide) (by decide) (r := (RX14, TX14, 107)) rfl [.int (iI 125)]) rfl rfl hl.1 rfl (lv_room (Nat.le_of_ble_eq_true rfl)) (D_182 W_prog_15_method_159_code_256 30 rfl rfl rfl) ⟨Nat.le_of_ble_eq_true rfl, Nat.le_of_ble_eq_true rfl⟩) hS (fun q _ h => zAin X hS q h) (zAin X hS) (fun u43 t43 H43 locs43 ht43 hv43 hw43 hB43 hz43 hk43 hS43 => ?_)
  have hZ43 := zBack X ht43 hB43
  refine lv_aload_n hx hb (D_42 W_prog_15_method_159_code_288 1 rfl rfl) rfl (lv_at hl 0 rfl) ?_
  refine lv_bipush (v := iI 10) hx hb (D_16 W_prog_15_method_159_code_288 2 rfl rfl rfl) (by decide) ?_
  obtain ⟨r44, F44, B44, hc44, hf⟩ := gbind hf
  refine va_callv (va_runV (As := [.int (iI 10)]) (rest := []) ⟨hx, hb, hml, hown, hts⟩ (c_M_put_0 (l := l) hc44) (cwV 1 hts (gdV k_12_199 k_12_201 ks_142 k_1_9 k_12_202) rfl rfl rfl (by decide +kernel) ⟨Nat.le_of_ble_eq_true rfl, Nat.le_of_ble_eq_true rfl⟩) (zPV X hZ43 hS43 (ci := 14) (by decide) (by decide) (r := (RX14, TX14, 107)) rfl [.int (iI 10)]) rfl rfl hl.1 rfl (lv_room (Nat.le_of_ble_eq_true rfl)) (D_182 W_prog_15_method_159_code_288 4 rfl rfl rfl) ⟨Nat.le_of_ble_eq_true rfl, Nat.le_of_ble_eq_true rfl⟩) hS43 (fun q _ h => zAin X hS43 q h) (zAin X hS43) (fun u44 t44 H44 locs44 ht44 hv44 hw44 hB44 hz44 hk44 hS44 => ?_)
  have hZ44 := zBack X ht44 hB44
  cases hf
  exact W.vret hx hb hr (fun t ht hW => ⟨⟨(), rfl, trivial, by rw [ht]; exact hZ44, va_K.moved hW.alike hK⟩, hS44.F ht⟩) hS44.2.2 (D_177 W_prog_15_method_159_code_288 7 rfl rfl) hlk

def f_M_downVoice_274 (rec239 : Int → Int → Int → zF → zB → zO) (K : Nat) (l6 : Int) (l5 : Int) (l1 : Int) (s1 : Int) (s2 : Int) (s3 : Int) (F : zF) (B : zB) : zO := zbind (f_M_downNote K s1 s2 s3 F B) (fun r42 F42 B42 => rec239 (l6 + 1) l5 l1 F42 B42)
set_option maxHeartbeats 4000000 in
set_option maxRecDepth 100000 in
theorem b_M_downVoice_274 {D : va_G} {ca : Nat → ClassId} {ad : Nat → Int → Nat → Nat} {L : List Nat} {aS vS : Nat → Nat} {A : Nat → Prop} {p : Program} {l : Launch} {e : Env} {s : State} {m : MethodId} {args : Array Value} {below : List Frame} {meth : Method} {c : Code} {K : Nat} {r : Int} {F9 : zF} {B9 : zB} (X : zX D ca L aS vS A p s m args meth c prog_15_method_159_code 7 (Option.none : Option Jvm.ClassFile.FieldType) "StaveHouseModel") {rec239 : Int → Int → Int → zF → zB → zO} (hrec239 : ∀ {l6 : Int} {l5 : Int} {l1 : Int} {F : zF} {B : zB} {H : Heap} {locs : List Loc} {ls : Array Slot}, rec239 l6 l5 l1 F B = some (r, F9, B9) → zH D ca ad lnM nM L F B A H → va_S A s.heap H locs → lv_has ls 7 [(6, .int (iI l6)), (5, .int (iI l5)), (0, .ref (ad 14 0 0)), (1, .int (iI l1))] → W p l e ({ frames := 9, cells := 0, slots := 0, locals := 305 } : Room) s m args below meth c H locs 0 0 (MQ below (Q_M_downVoice D ca ad L r F9 B9 A) args s 0 0 A) (F0 m 239 ls [])) {l6 : Int} {l5 : Int} {l1 : Int} {s1 : Int} {s2 : Int} {s3 : Int} {F : zF} {B : zB} {H : Heap} {locs : List Loc} {ls : Array Slot} (hf : f_M_downVoice_274 rec239 K l6 l5 l1 s1 s2 s3 F B = some (r, F9, B9)) (hZ : zH D ca ad lnM nM L F B A H) (hS : va_S A s.heap H locs) (hl : lv_has ls 7 [(6, .int (iI l6)), (5, .int (iI l5)), (0, .ref (ad 14 0 0)), (1, .int (iI l1))]) : W p l e ({ frames := 9, cells := 0, slots := 0, locals := 305 } : Room) s m args below meth c H locs 0 0 (MQ below (Q_M_downVoice D ca ad L r F9 B9 A) args s 0 0 A) (F0 m 274 ls [.int (iI s3), .int (iI s2), .int (iI s1), .ref (ad 14 0 0)]) := by
  obtain ⟨hx, hb, hr, hml, hown, hts, hlk, hK, hA, hL, hX⟩ := id X
  replace hf : (zbind (f_M_downNote K s1 s2 s3 F B) (fun r42 F42 B42 => rec239 (l6 + 1) l5 l1 F42 B42)) = some (r, F9, B9) := hf
  obtain ⟨r42, F42, B42, hc42, hf⟩ := gbind hf
  refine va_callv (va_runV (As := [.int (iI s1), .int (iI s2), .int (iI s3)]) (rest := []) ⟨hx, hb, hml, hown, hts⟩ (c_M_downNote (l := l) hc42) (cwV 3 hts (gdV k_13_195 k_13_197 ks_184 k_1_9 k_13_198) rfl rfl rfl (by decide +kernel) ⟨Nat.le_of_ble_eq_true rfl, Nat.le_of_ble_eq_true rfl⟩) (zPV X hZ hS (ci := 14) (by decide) (by decide) (r := (RX14, TX14, 107)) rfl [.int (iI s1), .int (iI s2), .int (iI s3)]) rfl rfl hl.1 rfl (lv_room (Nat.le_of_ble_eq_true rfl)) (D_182 W_prog_15_method_159_code_256 18 rfl rfl rfl) ⟨Nat.le_of_ble_eq_true rfl, Nat.le_of_ble_eq_true rfl⟩) hS (fun q _ h => zAin X hS q h) (zAin X hS) (fun u42 t42 H42 locs42 ht42 hv42 hw42 hB42 hz42 hk42 hS42 => ?_)
  have hZ42 := zBack X ht42 hB42
  refine lv_iinc (v := iI (l6 + 1)) (lv' := [(6, .int (iI (l6 + 1))), (5, .int (iI l5)), (0, .ref (ad 14 0 0)), (1, .int (iI l1))]) hx hb d_15_159_277 hl (k := 0) rfl (iI_add _ 1) (by decide) rfl (fun ls hl => ?_)
  refine lv_goto (tgt := 239) hx hb (D_167 W_prog_15_method_159_code_256 24 rfl rfl rfl) (by decide) ?_
  exact hrec239 hf hZ42 hS42 (lv_sub hl [0, 1, 2, 3] rfl)

def f_M_downVoice_239 (K : Nat) : Nat → Int → Int → Int → zF → zB → zO
  | 0, _, _, _, _, _ => none
  | n + 1, l6, l5, l1, F, B => if r32 l6 then if r32 l5 then (if l5 ≤ l6 then f_M_downVoice_283 K F B else if r32 (F 14 0 71) then (if 3000 < (F 14 0 71) then f_M_downVoice_283 K F B else if r32 (l6 + 1) then (if (l6 + 1) = l5 then f_M_downVoice_274 (f_M_downVoice_239 K n) K l6 l5 l1 l1 l6 1 F B else f_M_downVoice_274 (f_M_downVoice_239 K n) K l6 l5 l1 l1 l6 0 F B) else none) else none) else none else none
set_option maxHeartbeats 4000000 in
set_option maxRecDepth 100000 in
theorem b_M_downVoice_239 {D : va_G} {ca : Nat → ClassId} {ad : Nat → Int → Nat → Nat} {L : List Nat} {aS vS : Nat → Nat} {A : Nat → Prop} {p : Program} {l : Launch} {e : Env} {s : State} {m : MethodId} {args : Array Value} {below : List Frame} {meth : Method} {c : Code} {K : Nat} {r : Int} {F9 : zF} {B9 : zB} (X : zX D ca L aS vS A p s m args meth c prog_15_method_159_code 7 (Option.none : Option Jvm.ClassFile.FieldType) "StaveHouseModel") : ∀ {n : Nat} {l6 : Int} {l5 : Int} {l1 : Int} {F : zF} {B : zB} {H : Heap} {locs : List Loc} {ls : Array Slot}, f_M_downVoice_239 K n l6 l5 l1 F B = some (r, F9, B9) → zH D ca ad lnM nM L F B A H → va_S A s.heap H locs → lv_has ls 7 [(6, .int (iI l6)), (5, .int (iI l5)), (0, .ref (ad 14 0 0)), (1, .int (iI l1))] → W p l e ({ frames := 9, cells := 0, slots := 0, locals := 305 } : Room) s m args below meth c H locs 0 0 (MQ below (Q_M_downVoice D ca ad L r F9 B9 A) args s 0 0 A) (F0 m 239 ls []) := by
  obtain ⟨hx, hb, hr, hml, hown, hts, hlk, hK, hA, hL, hX⟩ := id X
  intro n
  induction n with
  | zero =>
    intros
    rename_i hf _ _ _
    cases hf
  | succ n ih =>
    intro l6 l5 l1 F B H locs ls hf hZ hS hl
    replace hf : (if r32 l6 then if r32 l5 then (if l5 ≤ l6 then f_M_downVoice_283 K F B else if r32 (F 14 0 71) then (if 3000 < (F 14 0 71) then f_M_downVoice_283 K F B else if r32 (l6 + 1) then (if (l6 + 1) = l5 then f_M_downVoice_274 (f_M_downVoice_239 K n) K l6 l5 l1 l1 l6 1 F B else f_M_downVoice_274 (f_M_downVoice_239 K n) K l6 l5 l1 l1 l6 0 F B) else none) else none) else none else none) = some (r, F9, B9) := hf
    refine lv_iload hx hb (D_21 W_prog_15_method_159_code_224 15 rfl rfl) (lv_at hl 0 rfl) ?_
    refine lv_iload hx hb (D_21 W_prog_15_method_159_code_224 17 rfl rfl) (lv_at hl 1 rfl) ?_
    obtain ⟨g35, hf⟩ := gif hf
    obtain ⟨g36, hf⟩ := gif hf
    refine zge (tgt := 283) hx hb g35 g36 (D_162 W_prog_15_method_159_code_224 19 rfl rfl rfl) (by decide) (fun h37 => ?_) (fun h37 => ?_)
    · replace hf := gpos hf h37
      exact b_M_downVoice_283 X hf hZ hS (lv_sub hl [2] rfl)
    · replace hf := gneg hf h37
      refine lv_aload_n hx hb (D_42 W_prog_15_method_159_code_224 22 rfl rfl) rfl (lv_at hl 2 rfl) ?_
      refine zget (ci := 14) (C := RX14) (T := TX14) (v := .int (iI (F 14 0 71))) (k := 71) hx hb hts inW_14 hown hK hZ (by decide) (by decide) rfl (by decide) k_11_69 rfl (D_180 W_prog_15_method_159_code_224 23 rfl rfl rfl) ?_
      refine lv_sipush (v := iI 3000) hx hb (D_17 W_prog_15_method_159_code_224 26 rfl rfl rfl) (by decide) ?_
      obtain ⟨g38, hf⟩ := gif hf
      refine zgt (tgt := 283) hx hb g38 (by decide) (D_163 W_prog_15_method_159_code_224 29 rfl rfl rfl) (by decide) (fun h39 => ?_) (fun h39 => ?_)
      · replace hf := gpos hf h39
        exact b_M_downVoice_283 X hf hZ hS (lv_sub hl [2] rfl)
      · replace hf := gneg hf h39
        refine lv_aload_n hx hb (D_42 W_prog_15_method_159_code_256 0 rfl rfl) rfl (lv_at hl 2 rfl) ?_
        refine lv_iload_n hx hb (D_27 W_prog_15_method_159_code_256 1 rfl rfl) rfl (lv_at hl 3 rfl) ?_
        refine lv_iload hx hb (D_21 W_prog_15_method_159_code_256 2 rfl rfl) (lv_at hl 0 rfl) ?_
        refine lv_iload hx hb (D_21 W_prog_15_method_159_code_256 4 rfl rfl) (lv_at hl 0 rfl) ?_
        refine lv_iconst (v := iI 1) hx hb (D_4 W_prog_15_method_159_code_256 6 rfl rfl) rfl ?_
        refine zadd hx hb (D_96 W_prog_15_method_159_code_256 7 rfl rfl) ?_
        refine lv_iload hx hb (D_21 W_prog_15_method_159_code_256 8 rfl rfl) (lv_at hl 1 rfl) ?_
        obtain ⟨g40, hf⟩ := gif hf
        refine zne (tgt := 273) hx hb g40 g36 (D_160 W_prog_15_method_159_code_256 10 rfl rfl rfl) (by decide) (fun h41 => ?_) (fun h41 => ?_)
        · replace hf := gneg hf h41
          refine lv_iconst (v := iI 0) hx hb (D_3 W_prog_15_method_159_code_256 17 rfl rfl) rfl ?_
          exact b_M_downVoice_274 X ih hf hZ hS (lv_sub hl [0, 1, 2, 3] rfl)
        · replace hf := gpos hf h41
          refine lv_iconst (v := iI 1) hx hb (D_4 W_prog_15_method_159_code_256 13 rfl rfl) rfl ?_
          refine lv_goto (tgt := 274) hx hb (D_167 W_prog_15_method_159_code_256 14 rfl rfl rfl) (by decide) ?_
          exact b_M_downVoice_274 X ih hf hZ hS (lv_sub hl [0, 1, 2, 3] rfl)

def f_M_downVoice_236 (K : Nat) (l5 : Int) (l1 : Int) (F : zF) (B : zB) : zO := f_M_downVoice_239 K K 0 l5 l1 F B
set_option maxHeartbeats 4000000 in
set_option maxRecDepth 100000 in
theorem b_M_downVoice_236 {D : va_G} {ca : Nat → ClassId} {ad : Nat → Int → Nat → Nat} {L : List Nat} {aS vS : Nat → Nat} {A : Nat → Prop} {p : Program} {l : Launch} {e : Env} {s : State} {m : MethodId} {args : Array Value} {below : List Frame} {meth : Method} {c : Code} {K : Nat} {r : Int} {F9 : zF} {B9 : zB} (X : zX D ca L aS vS A p s m args meth c prog_15_method_159_code 7 (Option.none : Option Jvm.ClassFile.FieldType) "StaveHouseModel") {l5 : Int} {l1 : Int} {F : zF} {B : zB} {H : Heap} {locs : List Loc} {ls : Array Slot} (hf : f_M_downVoice_236 K l5 l1 F B = some (r, F9, B9)) (hZ : zH D ca ad lnM nM L F B A H) (hS : va_S A s.heap H locs) (hl : lv_has ls 7 [(5, .int (iI l5)), (0, .ref (ad 14 0 0)), (1, .int (iI l1))]) : W p l e ({ frames := 9, cells := 0, slots := 0, locals := 305 } : Room) s m args below meth c H locs 0 0 (MQ below (Q_M_downVoice D ca ad L r F9 B9 A) args s 0 0 A) (F0 m 236 ls []) := by
  obtain ⟨hx, hb, hr, hml, hown, hts, hlk, hK, hA, hL, hX⟩ := id X
  replace hf : (f_M_downVoice_239 K K 0 l5 l1 F B) = some (r, F9, B9) := hf
  refine lv_iconst (v := iI 0) hx hb (D_3 W_prog_15_method_159_code_224 12 rfl rfl) rfl ?_
  refine lv_istore (lv' := [(6, .int (iI 0)), (5, .int (iI l5)), (0, .ref (ad 14 0 0)), (1, .int (iI l1))]) hx hb (D_54 W_prog_15_method_159_code_224 13 rfl rfl) hl (by decide) rfl (fun ls hl => ?_)
  exact b_M_downVoice_239 X hf hZ hS (lv_sub hl [0, 1, 2, 3] rfl)

def f_M_downVoice_209 (K : Nat) (l1 : Int) (F : zF) (B : zB) : zO := if 0 ≤ (F 14 0 6) ∧ (F 14 0 6) < 3 then zbind (f_M_notes K (F 14 0 6) l1 0 F B) (fun r30 F30 B30 => if r32 r30 then (if r30 ≤ 800 then f_M_downVoice_236 K r30 l1 F30 B30 else f_M_downVoice_236 K r30 l1 (zup3 F30 14 0 71 3001) B30) else none) else none
set_option maxHeartbeats 4000000 in
set_option maxRecDepth 100000 in
theorem b_M_downVoice_209 {D : va_G} {ca : Nat → ClassId} {ad : Nat → Int → Nat → Nat} {L : List Nat} {aS vS : Nat → Nat} {A : Nat → Prop} {p : Program} {l : Launch} {e : Env} {s : State} {m : MethodId} {args : Array Value} {below : List Frame} {meth : Method} {c : Code} {K : Nat} {r : Int} {F9 : zF} {B9 : zB} (X : zX D ca L aS vS A p s m args meth c prog_15_method_159_code 7 (Option.none : Option Jvm.ClassFile.FieldType) "StaveHouseModel") {l1 : Int} {F : zF} {B : zB} {H : Heap} {locs : List Loc} {ls : Array Slot} (hf : f_M_downVoice_209 K l1 F B = some (r, F9, B9)) (hZ : zH D ca ad lnM nM L F B A H) (hS : va_S A s.heap H locs) (hl : lv_has ls 7 [(0, .ref (ad 14 0 0)), (1, .int (iI l1))]) : W p l e ({ frames := 9, cells := 0, slots := 0, locals := 305 } : Room) s m args below meth c H locs 0 0 (MQ below (Q_M_downVoice D ca ad L r F9 B9 A) args s 0 0 A) (F0 m 209 ls []) := by
  obtain ⟨hx, hb, hr, hml, hown, hts, hlk, hK, hA, hL, hX⟩ := id X
  replace hf : (if 0 ≤ (F 14 0 6) ∧ (F 14 0 6) < 3 then zbind (f_M_notes K (F 14 0 6) l1 0 F B) (fun r30 F30 B30 => if r32 r30 then (if r30 ≤ 800 then f_M_downVoice_236 K r30 l1 F30 B30 else f_M_downVoice_236 K r30 l1 (zup3 F30 14 0 71 3001) B30) else none) else none) = some (r, F9, B9) := hf
  refine lv_aload_n hx hb (D_42 W_prog_15_method_159_code_192 17 rfl rfl) rfl (lv_at hl 0 rfl) ?_
  refine lv_aload_n hx hb (D_42 W_prog_15_method_159_code_192 18 rfl rfl) rfl (lv_at hl 0 rfl) ?_
  refine zget (ci := 14) (C := RX14) (T := TX14) (v := va_rf (zrf ad 13 (F 14 0 6))) (k := 6) hx hb hts inW_14 hown hK hZ (by decide) (by decide) rfl (by decide) k_11_4 rfl (D_180 W_prog_15_method_159_code_192 19 rfl rfl rfl) ?_
  refine lv_iload_n hx hb (D_27 W_prog_15_method_159_code_192 22 rfl rfl) rfl (lv_at hl 1 rfl) ?_
  refine lv_iconst (v := iI 0) hx hb (D_3 W_prog_15_method_159_code_192 23 rfl rfl) rfl ?_
  obtain ⟨g29, hf⟩ := gif hf
  refine W.eq (g2 := F0 m 216 ls [.int (iI 0), .int (iI l1), .ref (ad 13 (F 14 0 6) 0), .ref (ad 14 0 0)]) (by rw [zrf_pos (ad := ad) (t := 13) g29.1]; try rfl) ?_
  obtain ⟨r30, F30, B30, hc30, hf⟩ := gbind hf
  refine va_calli (va_runV (As := [.ref (ad 13 (F 14 0 6) 0), .int (iI l1), .int (iI 0)]) (rest := []) ⟨hx, hb, hml, hown, hts⟩ (c_M_notes (l := l) hc30) (cwV 3 hts (gdV k_13_136 k_13_138 ks_175 k_1_9 k_13_139) rfl rfl rfl (by decide +kernel) ⟨Nat.le_of_ble_eq_true rfl, Nat.le_of_ble_eq_true rfl⟩) (zPV X hZ hS (ci := 14) (by decide) (by decide) (r := (RX14, TX14, 107)) rfl [.ref (ad 13 (F 14 0 6) 0), .int (iI l1), .int (iI 0)]) rfl rfl hl.1 rfl (lv_room (Nat.le_of_ble_eq_true rfl)) (D_182 W_prog_15_method_159_code_192 24 rfl rfl rfl) ⟨Nat.le_of_ble_eq_true rfl, Nat.le_of_ble_eq_true rfl⟩) hS (fun q _ h => zAin X hS q h) (zAin X hS) (fun p30 u30 t30 H30 locs30 ht30 hv30 hw30 hB30 hz30 hk30 hS30 => ?_)
  have hZ30 := zBack X ht30 hB30
  subst hw30
  refine lv_istore (lv' := [(5, .int (iI r30)), (0, .ref (ad 14 0 0)), (1, .int (iI l1))]) hx hb (D_54 W_prog_15_method_159_code_192 27 rfl rfl) hl (by decide) rfl (fun ls hl => ?_)
  refine lv_iload hx hb (D_21 W_prog_15_method_159_code_192 29 rfl rfl) (lv_at hl 0 rfl) ?_
  refine lv_sipush (v := iI 800) hx hb (D_17 W_prog_15_method_159_code_192 31 rfl rfl rfl) (by decide) ?_
  obtain ⟨g31, hf⟩ := gif hf
  refine zle (tgt := 236) hx hb g31 (by decide) (D_164 W_prog_15_method_159_code_224 2 rfl rfl rfl) (by decide) (fun h33 => ?_) (fun h33 => ?_)
  · replace hf := gpos hf h33
    exact b_M_downVoice_236 X hf hZ30 hS30 (lv_sub hl [0, 1, 2] rfl)
  · replace hf := gneg hf h33
    refine lv_aload_n hx hb (D_42 W_prog_15_method_159_code_224 5 rfl rfl) rfl (lv_at hl 1 rfl) ?_
    refine lv_sipush (v := iI 3001) hx hb (D_17 W_prog_15_method_159_code_224 6 rfl rfl rfl) (by decide) ?_
    refine zput (ci := 14) (C := RX14) (T := TX14) (k := 71) (v := 3001) (w := .int (iI 3001)) hx hb hts inW_14 tyX14 tyX14_ok nmX14 hown hK hZ30 hS30 (by decide) (by decide) rfl (by decide) k_11_69 rfl (fun G h => congrArg (fun q => Value.int (iI q)) h) rfl rfl (zno (by decide)) (D_181 W_prog_15_method_159_code_224 9 rfl rfl rfl) (fun H34 locs34 hZ34 hS34 => ?_)
    exact b_M_downVoice_236 X hf hZ34 hS34 (lv_sub hl [0, 1, 2] rfl)

def f_M_downVoice_37 (K : Nat) (l1 : Int) (l2 : Int) (l4 : Int) (s1 : Nat) (F : zF) (B : zB) : zO := zbind (f_M_put_1 K s1 F B) (fun r7 F7 B7 => if 0 ≤ (F7 14 0 6) ∧ (F7 14 0 6) < 3 then if 0 ≤ l1 ∧ l1 < 4 then zbind (f_M_digits K (B7 13 (F7 14 0 6) 9 l1) F7 B7) (fun r10 F10 B10 => zbind (f_M_put_1 K 46 F10 B10) (fun r11 F11 B11 => zbind (f_M_put_0 K 10 F11 B11) (fun r12 F12 B12 => if 0 ≤ (F12 14 0 6) ∧ (F12 14 0 6) < 3 then zbind (f_M_places K (F12 14 0 6) l1 F12 B12) (fun r14 F14 B14 => if r32 l4 then zbind (f_M_compare K (F14 14 0 0) (F14 14 0 1) l2 l4 F14 B14) (fun r16 F16 B16 => if r32 r16 then (if 0 ≤ r16 then f_M_downVoice_209 K l1 F16 B16 else zbind (f_M_minus K l2 l4 (F16 14 0 0) (F16 14 0 1) F16 B16) (fun r19 F19 B19 => if 0 ≤ (F19 14 0 6) ∧ (F19 14 0 6) < 3 then if 0 ≤ ((1000 * l1) + (B19 13 (F19 14 0 6) 12 l1)) ∧ ((1000 * l1) + (B19 13 (F19 14 0 6) 12 l1)) < 4000 then zbind (f_M_places K (F19 14 0 6) l1 F19 (zup4 (zup4 (zup4 (zup4 (zup4 (zup4 B19 13 (F19 14 0 6) 12 l1 ((B19 13 (F19 14 0 6) 12 l1) + 1)) 13 (F19 14 0 6) 16 ((1000 * l1) + (B19 13 (F19 14 0 6) 12 l1)) (F19 14 0 0)) 13 (F19 14 0 6) 17 ((1000 * l1) + (B19 13 (F19 14 0 6) 12 l1)) (F19 14 0 1)) 13 (F19 14 0 6) 18 ((1000 * l1) + (B19 13 (F19 14 0 6) 12 l1)) 0) 13 (F19 14 0 6) 22 ((1000 * l1) + (B19 13 (F19 14 0 6) 12 l1)) 0) 13 (F19 14 0 6) 21 ((1000 * l1) + (B19 13 (F19 14 0 6) 12 l1)) 0)) (fun r28 F28 B28 => f_M_downVoice_209 K l1 F28 B28) else none else none)) else none) else none) else none))) else none else none)
set_option maxHeartbeats 4000000 in
set_option maxRecDepth 100000 in
theorem b_M_downVoice_37 {D : va_G} {ca : Nat → ClassId} {ad : Nat → Int → Nat → Nat} {L : List Nat} {aS vS : Nat → Nat} {A : Nat → Prop} {p : Program} {l : Launch} {e : Env} {s : State} {m : MethodId} {args : Array Value} {below : List Frame} {meth : Method} {c : Code} {K : Nat} {r : Int} {F9 : zF} {B9 : zB} (X : zX D ca L aS vS A p s m args meth c prog_15_method_159_code 7 (Option.none : Option Jvm.ClassFile.FieldType) "StaveHouseModel") {l1 : Int} {l2 : Int} {l4 : Int} {s1 : Nat} {F : zF} {B : zB} {H : Heap} {locs : List Loc} {ls : Array Slot} (hf : f_M_downVoice_37 K l1 l2 l4 s1 F B = some (r, F9, B9)) (hZ : zH D ca ad lnM nM L F B A H) (hS : va_S A s.heap H locs) (hl : lv_has ls 7 [(0, .ref (ad 14 0 0)), (1, .int (iI l1)), (2, .long (lI l2)), (4, .int (iI l4))]) : W p l e ({ frames := 9, cells := 0, slots := 0, locals := 305 } : Room) s m args below meth c H locs 0 0 (MQ below (Q_M_downVoice D ca ad L r F9 B9 A) args s 0 0 A) (F0 m 37 ls [.ref (aS s1), .ref (ad 14 0 0)]) := by
  obtain ⟨hx, hb, hr, hml, hown, hts, hlk, hK, hA, hL, hX⟩ := id X
  replace hf : (zbind (f_M_put_1 K s1 F B) (fun r7 F7 B7 => if 0 ≤ (F7 14 0 6) ∧ (F7 14 0 6) < 3 then if 0 ≤ l1 ∧ l1 < 4 then zbind (f_M_digits K (B7 13 (F7 14 0 6) 9 l1) F7 B7) (fun r10 F10 B10 => zbind (f_M_put_1 K 46 F10 B10) (fun r11 F11 B11 => zbind (f_M_put_0 K 10 F11 B11) (fun r12 F12 B12 => if 0 ≤ (F12 14 0 6) ∧ (F12 14 0 6) < 3 then zbind (f_M_places K (F12 14 0 6) l1 F12 B12) (fun r14 F14 B14 => if r32 l4 then zbind (f_M_compare K (F14 14 0 0) (F14 14 0 1) l2 l4 F14 B14) (fun r16 F16 B16 => if r32 r16 then (if 0 ≤ r16 then f_M_downVoice_209 K l1 F16 B16 else zbind (f_M_minus K l2 l4 (F16 14 0 0) (F16 14 0 1) F16 B16) (fun r19 F19 B19 => if 0 ≤ (F19 14 0 6) ∧ (F19 14 0 6) < 3 then if 0 ≤ ((1000 * l1) + (B19 13 (F19 14 0 6) 12 l1)) ∧ ((1000 * l1) + (B19 13 (F19 14 0 6) 12 l1)) < 4000 then zbind (f_M_places K (F19 14 0 6) l1 F19 (zup4 (zup4 (zup4 (zup4 (zup4 (zup4 B19 13 (F19 14 0 6) 12 l1 ((B19 13 (F19 14 0 6) 12 l1) + 1)) 13 (F19 14 0 6) 16 ((1000 * l1) + (B19 13 (F19 14 0 6) 12 l1)) (F19 14 0 0)) 13 (F19 14 0 6) 17 ((1000 * l1) + (B19 13 (F19 14 0 6) 12 l1)) (F19 14 0 1)) 13 (F19 14 0 6) 18 ((1000 * l1) + (B19 13 (F19 14 0 6) 12 l1)) 0) 13 (F19 14 0 6) 22 ((1000 * l1) + (B19 13 (F19 14 0 6) 12 l1)) 0) 13 (F19 14 0 6) 21 ((1000 * l1) + (B19 13 (F19 14 0 6) 12 l1)) 0)) (fun r28 F28 B28 => f_M_downVoice_209 K l1 F28 B28) else none else none)) else none) else none) else none))) else none else none)) = some (r, F9, B9) := hf
  obtain ⟨r7, F7, B7, hc7, hf⟩ := gbind hf
  refine va_callv (va_runV (As := [.ref (aS s1)]) (rest := []) ⟨hx, hb, hml, hown, hts⟩ (c_M_put_1 (l := l) hc7) (cwV 1 hts (gdV k_12_195 k_12_197 ks_141 k_1_9 k_12_198) rfl rfl rfl (by decide +kernel) ⟨Nat.le_of_ble_eq_true rfl, Nat.le_of_ble_eq_true rfl⟩) (zPV X hZ hS (ci := 14) (by decide) (by decide) (r := (RX14, TX14, 107)) rfl [.ref (aS s1)]) rfl rfl hl.1 rfl (lv_room (Nat.le_of_ble_eq_true rfl)) (D_182 W_prog_15_method_159_code_32 5 rfl rfl rfl) ⟨Nat.le_of_ble_eq_true rfl, Nat.le_of_ble_eq_true rfl⟩) hS (fun q _ h => zAin X hS q h) (zAin X hS) (fun u7 t7 H7 locs7 ht7 hv7 hw7 hB7 hz7 hk7 hS7 => ?_)
  have hZ7 := zBack X ht7 hB7
  refine lv_aload_n hx hb (D_42 W_prog_15_method_159_code_32 8 rfl rfl) rfl (lv_at hl 0 rfl) ?_
  refine lv_aload_n hx hb (D_42 W_prog_15_method_159_code_32 9 rfl rfl) rfl (lv_at hl 0 rfl) ?_
  refine zget (ci := 14) (C := RX14) (T := TX14) (v := va_rf (zrf ad 13 (F7 14 0 6))) (k := 6) hx hb hts inW_14 hown hK hZ7 (by decide) (by decide) rfl (by decide) k_11_4 rfl (D_180 W_prog_15_method_159_code_32 10 rfl rfl rfl) ?_
  obtain ⟨g8, hf⟩ := gif hf
  refine zunrf g8.1 ?_
  refine zget (ci := 13) (C := RX13) (T := TX13) (v := .ref (ad 13 (F7 14 0 6) (9 + 1))) (k := 9) hx hb hts inW_13 hown hK hZ7 g8.1 g8.2 rfl (by decide) k_9_136 rfl (D_180 W_prog_15_method_159_code_32 13 rfl rfl rfl) ?_
  refine lv_iload_n hx hb (D_27 W_prog_15_method_159_code_32 16 rfl rfl) rfl (lv_at hl 1 rfl) ?_
  obtain ⟨g9, hf⟩ := gif hf
  refine zald (ci := 13) (k := 9) hx hb hK rfl hZ7 g8.1 g8.2 rfl (Nat.le_of_ble_eq_true rfl) g9.1 g9.2 (D_46 W_prog_15_method_159_code_32 17 rfl rfl) ?_
  obtain ⟨r10, F10, B10, hc10, hf⟩ := gbind hf
  refine va_callv (va_runV (As := [.int (iI (B7 13 (F7 14 0 6) 9 l1))]) (rest := []) ⟨hx, hb, hml, hown, hts⟩ (c_M_digits (l := l) hc10) (cwV 1 hts (gdV k_13_112 k_13_114 ks_171 k_1_9 k_13_115) rfl rfl rfl (by decide +kernel) ⟨Nat.le_of_ble_eq_true rfl, Nat.le_of_ble_eq_true rfl⟩) (zPV X hZ7 hS7 (ci := 14) (by decide) (by decide) (r := (RX14, TX14, 107)) rfl [.int (iI (B7 13 (F7 14 0 6) 9 l1))]) rfl rfl hl.1 rfl (lv_room (Nat.le_of_ble_eq_true rfl)) (D_182 W_prog_15_method_159_code_32 18 rfl rfl rfl) ⟨Nat.le_of_ble_eq_true rfl, Nat.le_of_ble_eq_true rfl⟩) hS7 (fun q _ h => zAin X hS7 q h) (zAin X hS7) (fun u10 t10 H10 locs10 ht10 hv10 hw10 hB10 hz10 hk10 hS10 => ?_)
  have hZ10 := zBack X ht10 hB10
  refine lv_aload_n hx hb (D_42 W_prog_15_method_159_code_32 21 rfl rfl) rfl (lv_at hl 0 rfl) ?_
  refine gldcwS hx hb hown (hX.2.2.2.2.1 46 _ rfl).1 (D_19 W_prog_15_method_159_code_32 22 rfl rfl rfl) ?_
  obtain ⟨r11, F11, B11, hc11, hf⟩ := gbind hf
  refine va_callv (va_runV (As := [.ref (aS 46)]) (rest := []) ⟨hx, hb, hml, hown, hts⟩ (c_M_put_1 (l := l) hc11) (cwV 1 hts (gdV k_12_195 k_12_197 ks_141 k_1_9 k_12_198) rfl rfl rfl (by decide +kernel) ⟨Nat.le_of_ble_eq_true rfl, Nat.le_of_ble_eq_true rfl⟩) (zPV X hZ10 hS10 (ci := 14) (by decide) (by decide) (r := (RX14, TX14, 107)) rfl [.ref (aS 46)]) rfl rfl hl.1 rfl (lv_room (Nat.le_of_ble_eq_true rfl)) (D_182 W_prog_15_method_159_code_32 25 rfl rfl rfl) ⟨Nat.le_of_ble_eq_true rfl, Nat.le_of_ble_eq_true rfl⟩) hS10 (fun q _ h => zAin X hS10 q h) (zAin X hS10) (fun u11 t11 H11 locs11 ht11 hv11 hw11 hB11 hz11 hk11 hS11 => ?_)
  have hZ11 := zBack X ht11 hB11
  refine lv_aload_n hx hb (D_42 W_prog_15_method_159_code_32 28 rfl rfl) rfl (lv_at hl 0 rfl) ?_
  refine lv_bipush (v := iI 10) hx hb (D_16 W_prog_15_method_159_code_32 29 rfl rfl rfl) (by decide) ?_
  obtain ⟨r12, F12, B12, hc12, hf⟩ := gbind hf
  refine va_callv (va_runV (As := [.int (iI 10)]) (rest := []) ⟨hx, hb, hml, hown, hts⟩ (c_M_put_0 (l := l) hc12) (cwV 1 hts (gdV k_12_199 k_12_201 ks_142 k_1_9 k_12_202) rfl rfl rfl (by decide +kernel) ⟨Nat.le_of_ble_eq_true rfl, Nat.le_of_ble_eq_true rfl⟩) (zPV X hZ11 hS11 (ci := 14) (by decide) (by decide) (r := (RX14, TX14, 107)) rfl [.int (iI 10)]) rfl rfl hl.1 rfl (lv_room (Nat.le_of_ble_eq_true rfl)) (D_182 W_prog_15_method_159_code_32 31 rfl rfl rfl) ⟨Nat.le_of_ble_eq_true rfl, Nat.le_of_ble_eq_true rfl⟩) hS11 (fun q _ h => zAin X hS11 q h) (zAin X hS11) (fun u12 t12 H12 locs12 ht12 hv12 hw12 hB12 hz12 hk12 hS12 => ?_)
  have hZ12 := zBack X ht12 hB12
  refine lv_aload_n hx hb (D_42 W_prog_15_method_159_code_64 2 rfl rfl) rfl (lv_at hl 0 rfl) ?_
  refine lv_aload_n hx hb (D_42 W_prog_15_method_159_code_64 3 rfl rfl) rfl (lv_at hl 0 rfl) ?_
  refine zget (ci := 14) (C := RX14) (T := TX14) (v := va_rf (zrf ad 13 (F12 14 0 6))) (k := 6) hx hb hts inW_14 hown hK hZ12 (by decide) (by decide) rfl (by decide) k_11_4 rfl (D_180 W_prog_15_method_159_code_64 4 rfl rfl rfl) ?_
  refine lv_iload_n hx hb (D_27 W_prog_15_method_159_code_64 7 rfl rfl) rfl (lv_at hl 1 rfl) ?_
  obtain ⟨g13, hf⟩ := gif hf
  refine W.eq (g2 := F0 m 72 ls [.int (iI l1), .ref (ad 13 (F12 14 0 6) 0), .ref (ad 14 0 0)]) (by rw [zrf_pos (ad := ad) (t := 13) g13.1]; try rfl) ?_
  obtain ⟨r14, F14, B14, hc14, hf⟩ := gbind hf
  refine va_callv (va_runV (As := [.ref (ad 13 (F12 14 0 6) 0), .int (iI l1)]) (rest := []) ⟨hx, hb, hml, hown, hts⟩ (c_M_places (l := l) hc14) (cwV 2 hts (gdV k_13_128 k_13_130 ks_173 k_1_9 k_13_131) rfl rfl rfl (by decide +kernel) ⟨Nat.le_of_ble_eq_true rfl, Nat.le_of_ble_eq_true rfl⟩) (zPV X hZ12 hS12 (ci := 14) (by decide) (by decide) (r := (RX14, TX14, 107)) rfl [.ref (ad 13 (F12 14 0 6) 0), .int (iI l1)]) rfl rfl hl.1 rfl (lv_room (Nat.le_of_ble_eq_true rfl)) (D_182 W_prog_15_method_159_code_64 8 rfl rfl rfl) ⟨Nat.le_of_ble_eq_true rfl, Nat.le_of_ble_eq_true rfl⟩) hS12 (fun q _ h => zAin X hS12 q h) (zAin X hS12) (fun u14 t14 H14 locs14 ht14 hv14 hw14 hB14 hz14 hk14 hS14 => ?_)
  have hZ14 := zBack X ht14 hB14
  refine lv_aload_n hx hb (D_42 W_prog_15_method_159_code_64 11 rfl rfl) rfl (lv_at hl 0 rfl) ?_
  refine zget (ci := 14) (C := RX14) (T := TX14) (v := .long (lI (F14 14 0 0))) (k := 0) hx hb hts inW_14 hown hK hZ14 (by decide) (by decide) rfl (by decide) k_10_238 rfl (D_180 W_prog_15_method_159_code_64 12 rfl rfl rfl) ?_
  refine lv_aload_n hx hb (D_42 W_prog_15_method_159_code_64 15 rfl rfl) rfl (lv_at hl 0 rfl) ?_
  refine zget (ci := 14) (C := RX14) (T := TX14) (v := .long (lI (F14 14 0 1))) (k := 1) hx hb hts inW_14 hown hK hZ14 (by decide) (by decide) rfl (by decide) k_10_239 rfl (D_180 W_prog_15_method_159_code_64 16 rfl rfl rfl) ?_
  refine lv_lload_n hx hb (D_32 W_prog_15_method_159_code_64 19 rfl rfl) rfl (lv_at hl 2 rfl) ?_
  refine lv_iload hx hb (D_21 W_prog_15_method_159_code_64 20 rfl rfl) (lv_at hl 3 rfl) ?_
  obtain ⟨g15, hf⟩ := gif hf
  refine zi2l hx hb g15 (D_133 W_prog_15_method_159_code_64 22 rfl rfl) ?_
  obtain ⟨r16, F16, B16, hc16, hf⟩ := gbind hf
  refine va_calli (va_runS (As := [.long (lI (F14 14 0 0)), .long (lI (F14 14 0 1)), .long (lI l2), .long (lI l4)]) (rest := []) ⟨hx, hb, hml, hown, hts⟩ (c_M_compare (l := l) hc16) (va_cwS 4 hts (gdS k_13_104 k_13_105 k_1_9 k_13_106) rfl rfl rfl (by decide +kernel) ⟨Nat.le_of_ble_eq_true rfl, Nat.le_of_ble_eq_true rfl⟩) (zPS X hZ14 hS14 [.long (lI (F14 14 0 0)), .long (lI (F14 14 0 1)), .long (lI l2), .long (lI l4)]) rfl rfl hl.1 rfl (lv_room (Nat.le_of_ble_eq_true rfl)) (D_184 W_prog_15_method_159_code_64 23 rfl rfl rfl) ⟨Nat.le_of_ble_eq_true rfl, Nat.le_of_ble_eq_true rfl⟩) hS14 (fun q _ h => zAin X hS14 q h) (zAin X hS14) (fun p16 u16 t16 H16 locs16 ht16 hv16 hw16 hB16 hz16 hk16 hS16 => ?_)
  have hZ16 := zBack X ht16 hB16
  subst hw16
  obtain ⟨g17, hf⟩ := gif hf
  refine z0ge (tgt := 209) hx hb g17 (D_156 W_prog_15_method_159_code_64 26 rfl rfl rfl) (by decide) (fun h18 => ?_) (fun h18 => ?_)
  · replace hf := gpos hf h18
    exact b_M_downVoice_209 X hf hZ16 hS16 (lv_sub hl [0, 1] rfl)
  · replace hf := gneg hf h18
    refine lv_aload_n hx hb (D_42 W_prog_15_method_159_code_64 29 rfl rfl) rfl (lv_at hl 0 rfl) ?_
    refine lv_lload_n hx hb (D_32 W_prog_15_method_159_code_64 30 rfl rfl) rfl (lv_at hl 2 rfl) ?_
    refine lv_iload hx hb (D_21 W_prog_15_method_159_code_64 31 rfl rfl) (lv_at hl 3 rfl) ?_
    refine zi2l hx hb g15 (D_133 W_prog_15_method_159_code_96 1 rfl rfl) ?_
    refine lv_aload_n hx hb (D_42 W_prog_15_method_159_code_96 2 rfl rfl) rfl (lv_at hl 0 rfl) ?_
    refine zget (ci := 14) (C := RX14) (T := TX14) (v := .long (lI (F16 14 0 0))) (k := 0) hx hb hts inW_14 hown hK hZ16 (by decide) (by decide) rfl (by decide) k_10_238 rfl (D_180 W_prog_15_method_159_code_96 3 rfl rfl rfl) ?_
    refine lv_aload_n hx hb (D_42 W_prog_15_method_159_code_96 6 rfl rfl) rfl (lv_at hl 0 rfl) ?_
    refine zget (ci := 14) (C := RX14) (T := TX14) (v := .long (lI (F16 14 0 1))) (k := 1) hx hb hts inW_14 hown hK hZ16 (by decide) (by decide) rfl (by decide) k_10_239 rfl (D_180 W_prog_15_method_159_code_96 7 rfl rfl rfl) ?_
    obtain ⟨r19, F19, B19, hc19, hf⟩ := gbind hf
    refine va_callv (va_runV (As := [.long (lI l2), .long (lI l4), .long (lI (F16 14 0 0)), .long (lI (F16 14 0 1))]) (rest := []) ⟨hx, hb, hml, hown, hts⟩ (c_M_minus (l := l) hc19) (cwV 4 hts (gdV k_13_132 k_13_134 ks_174 k_1_9 k_13_135) rfl rfl rfl (by decide +kernel) ⟨Nat.le_of_ble_eq_true rfl, Nat.le_of_ble_eq_true rfl⟩) (zPV X hZ16 hS16 (ci := 14) (by decide) (by decide) (r := (RX14, TX14, 107)) rfl [.long (lI l2), .long (lI l4), .long (lI (F16 14 0 0)), .long (lI (F16 14 0 1))]) rfl rfl hl.1 rfl (lv_room (Nat.le_of_ble_eq_true rfl)) (D_182 W_prog_15_method_159_code_96 10 rfl rfl rfl) ⟨Nat.le_of_ble_eq_true rfl, Nat.le_of_ble_eq_true rfl⟩) hS16 (fun q _ h => zAin X hS16 q h) (zAin X hS16) (fun u19 t19 H19 locs19 ht19 hv19 hw19 hB19 hz19 hk19 hS19 => ?_)
    have hZ19 := zBack X ht19 hB19
    refine lv_sipush (v := iI 1000) hx hb (D_17 W_prog_15_method_159_code_96 13 rfl rfl rfl) (by decide) ?_
    refine lv_iload_n hx hb (D_27 W_prog_15_method_159_code_96 16 rfl rfl) rfl (lv_at hl 1 rfl) ?_
    refine zmul hx hb (D_104 W_prog_15_method_159_code_96 17 rfl rfl) ?_
    refine lv_aload_n hx hb (D_42 W_prog_15_method_159_code_96 18 rfl rfl) rfl (lv_at hl 0 rfl) ?_
    refine zget (ci := 14) (C := RX14) (T := TX14) (v := va_rf (zrf ad 13 (F19 14 0 6))) (k := 6) hx hb hts inW_14 hown hK hZ19 (by decide) (by decide) rfl (by decide) k_11_4 rfl (D_180 W_prog_15_method_159_code_96 19 rfl rfl rfl) ?_
    obtain ⟨g20, hf⟩ := gif hf
    refine zunrf g20.1 ?_
    refine zget (ci := 13) (C := RX13) (T := TX13) (v := .ref (ad 13 (F19 14 0 6) (12 + 1))) (k := 12) hx hb hts inW_13 hown hK hZ19 g20.1 g20.2 rfl (by decide) k_9_142 rfl (D_180 W_prog_15_method_159_code_96 22 rfl rfl rfl) ?_
    refine lv_iload_n hx hb (D_27 W_prog_15_method_159_code_96 25 rfl rfl) rfl (lv_at hl 1 rfl) ?_
    refine zald (ci := 13) (k := 12) hx hb hK rfl hZ19 g20.1 g20.2 rfl (Nat.le_of_ble_eq_true rfl) g9.1 g9.2 (D_46 W_prog_15_method_159_code_96 26 rfl rfl) ?_
    refine zadd hx hb (D_96 W_prog_15_method_159_code_96 27 rfl rfl) ?_
    refine lv_istore (lv' := [(5, .int (iI ((1000 * l1) + (B19 13 (F19 14 0 6) 12 l1)))), (0, .ref (ad 14 0 0)), (1, .int (iI l1)), (2, .long (lI l2)), (4, .int (iI l4))]) hx hb (D_54 W_prog_15_method_159_code_96 28 rfl rfl) hl (by decide) rfl (fun ls hl => ?_)
    refine lv_aload_n hx hb (D_42 W_prog_15_method_159_code_96 30 rfl rfl) rfl (lv_at hl 1 rfl) ?_
    refine zget (ci := 14) (C := RX14) (T := TX14) (v := va_rf (zrf ad 13 (F19 14 0 6))) (k := 6) hx hb hts inW_14 hown hK hZ19 (by decide) (by decide) rfl (by decide) k_11_4 rfl (D_180 W_prog_15_method_159_code_96 31 rfl rfl rfl) ?_
    refine zunrf g20.1 ?_
    refine zget (ci := 13) (C := RX13) (T := TX13) (v := .ref (ad 13 (F19 14 0 6) (12 + 1))) (k := 12) hx hb hts inW_13 hown hK hZ19 g20.1 g20.2 rfl (by decide) k_9_142 rfl (D_180 W_prog_15_method_159_code_128 2 rfl rfl rfl) ?_
    refine lv_iload_n hx hb (D_27 W_prog_15_method_159_code_128 5 rfl rfl) rfl (lv_at hl 2 rfl) ?_
    refine lv_dup2_11 hx hb (D_92 W_prog_15_method_159_code_128 6 rfl rfl) rfl rfl ?_
    refine zald (ci := 13) (k := 12) hx hb hK rfl hZ19 g20.1 g20.2 rfl (Nat.le_of_ble_eq_true rfl) g9.1 g9.2 (D_46 W_prog_15_method_159_code_128 7 rfl rfl) ?_
    refine lv_iconst (v := iI 1) hx hb (D_4 W_prog_15_method_159_code_128 8 rfl rfl) rfl ?_
    refine zadd hx hb (D_96 W_prog_15_method_159_code_128 9 rfl rfl) ?_
    refine zast (ci := 13) (k := 12) hx hb hK rfl hZ19 hS19 g20.1 g20.2 rfl (Nat.le_of_ble_eq_true rfl) g9.1 g9.2 (D_79 W_prog_15_method_159_code_128 10 rfl rfl) (fun H21 locs21 hZ21 hS21 => ?_)
    refine lv_aload_n hx hb (D_42 W_prog_15_method_159_code_128 11 rfl rfl) rfl (lv_at hl 1 rfl) ?_
    refine zget (ci := 14) (C := RX14) (T := TX14) (v := va_rf (zrf ad 13 (F19 14 0 6))) (k := 6) hx hb hts inW_14 hown hK hZ21 (by decide) (by decide) rfl (by decide) k_11_4 rfl (D_180 W_prog_15_method_159_code_128 12 rfl rfl rfl) ?_
    refine zunrf g20.1 ?_
    refine zget (ci := 13) (C := RX13) (T := TX13) (v := .ref (ad 13 (F19 14 0 6) (16 + 1))) (k := 16) hx hb hts inW_13 hown hK hZ21 g20.1 g20.2 rfl (by decide) k_9_150 rfl (D_180 W_prog_15_method_159_code_128 15 rfl rfl rfl) ?_
    refine lv_iload hx hb (D_21 W_prog_15_method_159_code_128 18 rfl rfl) (lv_at hl 0 rfl) ?_
    refine lv_aload_n hx hb (D_42 W_prog_15_method_159_code_128 20 rfl rfl) rfl (lv_at hl 1 rfl) ?_
    refine zget (ci := 14) (C := RX14) (T := TX14) (v := .long (lI (F19 14 0 0))) (k := 0) hx hb hts inW_14 hown hK hZ21 (by decide) (by decide) rfl (by decide) k_10_238 rfl (D_180 W_prog_15_method_159_code_128 21 rfl rfl rfl) ?_
    obtain ⟨g22, hf⟩ := gif hf
    refine zlast (ci := 13) (k := 16) hx hb hK rfl hZ21 hS21 g20.1 g20.2 rfl (Nat.le_of_ble_eq_true rfl) g22.1 g22.2 (D_80 W_prog_15_method_159_code_128 24 rfl rfl) (fun H23 locs23 hZ23 hS23 => ?_)
    refine lv_aload_n hx hb (D_42 W_prog_15_method_159_code_128 25 rfl rfl) rfl (lv_at hl 1 rfl) ?_
    refine zget (ci := 14) (C := RX14) (T := TX14) (v := va_rf (zrf ad 13 (F19 14 0 6))) (k := 6) hx hb hts inW_14 hown hK hZ23 (by decide) (by decide) rfl (by decide) k_11_4 rfl (D_180 W_prog_15_method_159_code_128 26 rfl rfl rfl) ?_
    refine zunrf g20.1 ?_
    refine zget (ci := 13) (C := RX13) (T := TX13) (v := .ref (ad 13 (F19 14 0 6) (17 + 1))) (k := 17) hx hb hts inW_13 hown hK hZ23 g20.1 g20.2 rfl (by decide) k_9_152 rfl (D_180 W_prog_15_method_159_code_128 29 rfl rfl rfl) ?_
    refine lv_iload hx hb (D_21 W_prog_15_method_159_code_160 0 rfl rfl) (lv_at hl 0 rfl) ?_
    refine lv_aload_n hx hb (D_42 W_prog_15_method_159_code_160 2 rfl rfl) rfl (lv_at hl 1 rfl) ?_
    refine zget (ci := 14) (C := RX14) (T := TX14) (v := .long (lI (F19 14 0 1))) (k := 1) hx hb hts inW_14 hown hK hZ23 (by decide) (by decide) rfl (by decide) k_10_239 rfl (D_180 W_prog_15_method_159_code_160 3 rfl rfl rfl) ?_
    refine zlast (ci := 13) (k := 17) hx hb hK rfl hZ23 hS23 g20.1 g20.2 rfl (Nat.le_of_ble_eq_true rfl) g22.1 g22.2 (D_80 W_prog_15_method_159_code_160 6 rfl rfl) (fun H24 locs24 hZ24 hS24 => ?_)
    refine lv_aload_n hx hb (D_42 W_prog_15_method_159_code_160 7 rfl rfl) rfl (lv_at hl 1 rfl) ?_
    refine zget (ci := 14) (C := RX14) (T := TX14) (v := va_rf (zrf ad 13 (F19 14 0 6))) (k := 6) hx hb hts inW_14 hown hK hZ24 (by decide) (by decide) rfl (by decide) k_11_4 rfl (D_180 W_prog_15_method_159_code_160 8 rfl rfl rfl) ?_
    refine zunrf g20.1 ?_
    refine zget (ci := 13) (C := RX13) (T := TX13) (v := .ref (ad 13 (F19 14 0 6) (18 + 1))) (k := 18) hx hb hts inW_13 hown hK hZ24 g20.1 g20.2 rfl (by decide) k_9_154 rfl (D_180 W_prog_15_method_159_code_160 11 rfl rfl rfl) ?_
    refine lv_iload hx hb (D_21 W_prog_15_method_159_code_160 14 rfl rfl) (lv_at hl 0 rfl) ?_
    refine lv_iconst (v := iI 0) hx hb (D_3 W_prog_15_method_159_code_160 16 rfl rfl) rfl ?_
    refine zast (ci := 13) (k := 18) hx hb hK rfl hZ24 hS24 g20.1 g20.2 rfl (Nat.le_of_ble_eq_true rfl) g22.1 g22.2 (D_79 W_prog_15_method_159_code_160 17 rfl rfl) (fun H25 locs25 hZ25 hS25 => ?_)
    refine lv_aload_n hx hb (D_42 W_prog_15_method_159_code_160 18 rfl rfl) rfl (lv_at hl 1 rfl) ?_
    refine zget (ci := 14) (C := RX14) (T := TX14) (v := va_rf (zrf ad 13 (F19 14 0 6))) (k := 6) hx hb hts inW_14 hown hK hZ25 (by decide) (by decide) rfl (by decide) k_11_4 rfl (D_180 W_prog_15_method_159_code_160 19 rfl rfl rfl) ?_
    refine zunrf g20.1 ?_
    refine zget (ci := 13) (C := RX13) (T := TX13) (v := .ref (ad 13 (F19 14 0 6) (22 + 1))) (k := 22) hx hb hts inW_13 hown hK hZ25 g20.1 g20.2 rfl (by decide) k_9_162 rfl (D_180 W_prog_15_method_159_code_160 22 rfl rfl rfl) ?_
    refine lv_iload hx hb (D_21 W_prog_15_method_159_code_160 25 rfl rfl) (lv_at hl 0 rfl) ?_
    refine lv_iconst (v := iI 0) hx hb (D_3 W_prog_15_method_159_code_160 27 rfl rfl) rfl ?_
    refine zast (ci := 13) (k := 22) hx hb hK rfl hZ25 hS25 g20.1 g20.2 rfl (Nat.le_of_ble_eq_true rfl) g22.1 g22.2 (D_79 W_prog_15_method_159_code_160 28 rfl rfl) (fun H26 locs26 hZ26 hS26 => ?_)
    refine lv_aload_n hx hb (D_42 W_prog_15_method_159_code_160 29 rfl rfl) rfl (lv_at hl 1 rfl) ?_
    refine zget (ci := 14) (C := RX14) (T := TX14) (v := va_rf (zrf ad 13 (F19 14 0 6))) (k := 6) hx hb hts inW_14 hown hK hZ26 (by decide) (by decide) rfl (by decide) k_11_4 rfl (D_180 W_prog_15_method_159_code_160 30 rfl rfl rfl) ?_
    refine zunrf g20.1 ?_
    refine zget (ci := 13) (C := RX13) (T := TX13) (v := .ref (ad 13 (F19 14 0 6) (21 + 1))) (k := 21) hx hb hts inW_13 hown hK hZ26 g20.1 g20.2 rfl (by decide) k_9_160 rfl (D_180 W_prog_15_method_159_code_192 1 rfl rfl rfl) ?_
    refine lv_iload hx hb (D_21 W_prog_15_method_159_code_192 4 rfl rfl) (lv_at hl 0 rfl) ?_
    refine lv_iconst (v := iI 0) hx hb (D_3 W_prog_15_method_159_code_192 6 rfl rfl) rfl ?_
    refine zast (ci := 13) (k := 21) hx hb hK rfl hZ26 hS26 g20.1 g20.2 rfl (Nat.le_of_ble_eq_true rfl) g22.1 g22.2 (D_79 W_prog_15_method_159_code_192 7 rfl rfl) (fun H27 locs27 hZ27 hS27 => ?_)
    refine lv_aload_n hx hb (D_42 W_prog_15_method_159_code_192 8 rfl rfl) rfl (lv_at hl 1 rfl) ?_
    refine lv_aload_n hx hb (D_42 W_prog_15_method_159_code_192 9 rfl rfl) rfl (lv_at hl 1 rfl) ?_
    refine zget (ci := 14) (C := RX14) (T := TX14) (v := va_rf (zrf ad 13 (F19 14 0 6))) (k := 6) hx hb hts inW_14 hown hK hZ27 (by decide) (by decide) rfl (by decide) k_11_4 rfl (D_180 W_prog_15_method_159_code_192 10 rfl rfl rfl) ?_
    refine lv_iload_n hx hb (D_27 W_prog_15_method_159_code_192 13 rfl rfl) rfl (lv_at hl 2 rfl) ?_
    refine W.eq (g2 := F0 m 206 ls [.int (iI l1), .ref (ad 13 (F19 14 0 6) 0), .ref (ad 14 0 0)]) (by rw [zrf_pos (ad := ad) (t := 13) g20.1]; try rfl) ?_
    obtain ⟨r28, F28, B28, hc28, hf⟩ := gbind hf
    refine va_callv (va_runV (As := [.ref (ad 13 (F19 14 0 6) 0), .int (iI l1)]) (rest := []) ⟨hx, hb, hml, hown, hts⟩ (c_M_places (l := l) hc28) (cwV 2 hts (gdV k_13_128 k_13_130 ks_173 k_1_9 k_13_131) rfl rfl rfl (by decide +kernel) ⟨Nat.le_of_ble_eq_true rfl, Nat.le_of_ble_eq_true rfl⟩) (zPV X hZ27 hS27 (ci := 14) (by decide) (by decide) (r := (RX14, TX14, 107)) rfl [.ref (ad 13 (F19 14 0 6) 0), .int (iI l1)]) rfl rfl hl.1 rfl (lv_room (Nat.le_of_ble_eq_true rfl)) (D_182 W_prog_15_method_159_code_192 14 rfl rfl rfl) ⟨Nat.le_of_ble_eq_true rfl, Nat.le_of_ble_eq_true rfl⟩) hS27 (fun q _ h => zAin X hS27 q h) (zAin X hS27) (fun u28 t28 H28 locs28 ht28 hv28 hw28 hB28 hz28 hk28 hS28 => ?_)
    have hZ28 := zBack X ht28 hB28
    exact b_M_downVoice_209 X hf hZ28 hS28 (lv_sub hl [1, 2] rfl)

def f_M_downVoice (K : Nat) (l1 : Int) (l2 : Int) (l4 : Int) (F : zF) (B : zB) : zO := zbind (f_M_put_1 K 43 F B) (fun r1 F1 B1 => zbind (f_M_put_0 K (97 + l1) F1 B1) (fun r2 F2 B2 => if 0 ≤ (F2 14 0 6) ∧ (F2 14 0 6) < 3 then if 0 ≤ l1 ∧ l1 < 4 then if r32 (B2 13 (F2 14 0 6) 8 l1) then (if (B2 13 (F2 14 0 6) 8 l1) = 0 then f_M_downVoice_37 K l1 l2 l4 44 F2 B2 else f_M_downVoice_37 K l1 l2 l4 45 F2 B2) else none else none else none))
set_option maxHeartbeats 4000000 in
set_option maxRecDepth 100000 in
theorem c_M_downVoice {l : Launch} {D : va_G} {ca : Nat → ClassId} {ad : Nat → Int → Nat → Nat} {L : List Nat} {aS vS : Nat → Nat} {sz K : Nat}  {l1 : Int} {l2 : Int} {l4 : Int} {F F9 : zF} {B B9 : zB} {r : Int} (hf : f_M_downVoice K l1 l2 l4 F B = some (r, F9, B9)) : Met l ({ cls := "StaveHouseModel", name := "downVoice", desc := "(IJI)V" } : Jvm.MethodName) (Cond.code ({ cls := "StaveHouseModel", name := "downVoice", desc := "(IJI)V" } : Jvm.MethodName) prog_15_method_159_code 7 (Option.none : Option Jvm.ClassFile.FieldType) :: wAll) ({ frames := 9, cells := 0, slots := 0, locals := 305 } : Room) (va_Pc [.ref (ad 14 0 0), .int (iI l1), .long (lI l2), .int (iI l4)] (zPre D ca ad lnM nM L aS vS F B sz)) (Q_M_downVoice D ca ad L r F9 B9 (zA L sz)) 0 0 (zA L sz) := by
  refine zMet (Qc := Q_M_downVoice D ca ad L r F9 B9) (lv := [(0, .ref (ad 14 0 0)), (1, .int (iI l1)), (2, .long (lI l2)), (4, .int (iI l4))]) (by decide) (Nat.le_of_ble_eq_true rfl) rfl (fun A p e s m below meth c ls X hZ hS hl => ?_)
  obtain ⟨hx, hb, hr, hml, hown, hts, hlk, hK, hA, hL, hX⟩ := id X
  replace hf : (zbind (f_M_put_1 K 43 F B) (fun r1 F1 B1 => zbind (f_M_put_0 K (97 + l1) F1 B1) (fun r2 F2 B2 => if 0 ≤ (F2 14 0 6) ∧ (F2 14 0 6) < 3 then if 0 ≤ l1 ∧ l1 < 4 then if r32 (B2 13 (F2 14 0 6) 8 l1) then (if (B2 13 (F2 14 0 6) 8 l1) = 0 then f_M_downVoice_37 K l1 l2 l4 44 F2 B2 else f_M_downVoice_37 K l1 l2 l4 45 F2 B2) else none else none else none))) = some (r, F9, B9) := hf
  refine lv_aload_n hx hb (D_42 W_prog_15_method_159_code_0 0 rfl rfl) rfl (lv_at hl 0 rfl) ?_
  refine gldcwS hx hb hown (hX.2.2.2.2.1 43 _ rfl).1 (D_19 W_prog_15_method_159_code_0 1 rfl rfl rfl) ?_
  obtain ⟨r1, F1, B1, hc1, hf⟩ := gbind hf
  refine va_callv (va_runV (As := [.ref (aS 43)]) (rest := []) ⟨hx, hb, hml, hown, hts⟩ (c_M_put_1 (l := l) hc1) (cwV 1 hts (gdV k_12_195 k_12_197 ks_141 k_1_9 k_12_198) rfl rfl rfl (by decide +kernel) ⟨Nat.le_of_ble_eq_true rfl, Nat.le_of_ble_eq_true rfl⟩) (zPV X hZ hS (ci := 14) (by decide) (by decide) (r := (RX14, TX14, 107)) rfl [.ref (aS 43)]) rfl rfl hl.1 rfl (lv_room (Nat.le_of_ble_eq_true rfl)) (D_182 W_prog_15_method_159_code_0 4 rfl rfl rfl) ⟨Nat.le_of_ble_eq_true rfl, Nat.le_of_ble_eq_true rfl⟩) hS (fun q _ h => zAin X hS q h) (zAin X hS) (fun u1 t1 H1 locs1 ht1 hv1 hw1 hB1 hz1 hk1 hS1 => ?_)
  have hZ1 := zBack X ht1 hB1
  refine lv_aload_n hx hb (D_42 W_prog_15_method_159_code_0 7 rfl rfl) rfl (lv_at hl 0 rfl) ?_
  refine lv_bipush (v := iI 97) hx hb (D_16 W_prog_15_method_159_code_0 8 rfl rfl rfl) (by decide) ?_
  refine lv_iload_n hx hb (D_27 W_prog_15_method_159_code_0 10 rfl rfl) rfl (lv_at hl 1 rfl) ?_
  refine zadd hx hb (D_96 W_prog_15_method_159_code_0 11 rfl rfl) ?_
  obtain ⟨r2, F2, B2, hc2, hf⟩ := gbind hf
  refine va_callv (va_runV (As := [.int (iI (97 + l1))]) (rest := []) ⟨hx, hb, hml, hown, hts⟩ (c_M_put_0 (l := l) hc2) (cwV 1 hts (gdV k_12_199 k_12_201 ks_142 k_1_9 k_12_202) rfl rfl rfl (by decide +kernel) ⟨Nat.le_of_ble_eq_true rfl, Nat.le_of_ble_eq_true rfl⟩) (zPV X hZ1 hS1 (ci := 14) (by decide) (by decide) (r := (RX14, TX14, 107)) rfl [.int (iI (97 + l1))]) rfl rfl hl.1 rfl (lv_room (Nat.le_of_ble_eq_true rfl)) (D_182 W_prog_15_method_159_code_0 12 rfl rfl rfl) ⟨Nat.le_of_ble_eq_true rfl, Nat.le_of_ble_eq_true rfl⟩) hS1 (fun q _ h => zAin X hS1 q h) (zAin X hS1) (fun u2 t2 H2 locs2 ht2 hv2 hw2 hB2 hz2 hk2 hS2 => ?_)
  have hZ2 := zBack X ht2 hB2
  refine lv_aload_n hx hb (D_42 W_prog_15_method_159_code_0 15 rfl rfl) rfl (lv_at hl 0 rfl) ?_
  refine lv_aload_n hx hb (D_42 W_prog_15_method_159_code_0 16 rfl rfl) rfl (lv_at hl 0 rfl) ?_
  refine zget (ci := 14) (C := RX14) (T := TX14) (v := va_rf (zrf ad 13 (F2 14 0 6))) (k := 6) hx hb hts inW_14 hown hK hZ2 (by decide) (by decide) rfl (by decide) k_11_4 rfl (D_180 W_prog_15_method_159_code_0 17 rfl rfl rfl) ?_
  obtain ⟨g3, hf⟩ := gif hf
  refine zunrf g3.1 ?_
  refine zget (ci := 13) (C := RX13) (T := TX13) (v := .ref (ad 13 (F2 14 0 6) (8 + 1))) (k := 8) hx hb hts inW_13 hown hK hZ2 g3.1 g3.2 rfl (by decide) k_9_134 rfl (D_180 W_prog_15_method_159_code_0 20 rfl rfl rfl) ?_
  refine lv_iload_n hx hb (D_27 W_prog_15_method_159_code_0 23 rfl rfl) rfl (lv_at hl 1 rfl) ?_
  obtain ⟨g4, hf⟩ := gif hf
  refine zald (ci := 13) (k := 8) hx hb hK rfl hZ2 g3.1 g3.2 rfl (Nat.le_of_ble_eq_true rfl) g4.1 g4.2 (D_46 W_prog_15_method_159_code_0 24 rfl rfl) ?_
  obtain ⟨g5, hf⟩ := gif hf
  refine z0ne (tgt := 34) hx hb g5 (D_154 W_prog_15_method_159_code_0 25 rfl rfl rfl) (by decide) (fun h6 => ?_) (fun h6 => ?_)
  · replace hf := gneg hf h6
    refine gldcwS hx hb hown (hX.2.2.2.2.1 45 _ rfl).1 (D_19 W_prog_15_method_159_code_32 2 rfl rfl rfl) ?_
    exact b_M_downVoice_37 X hf hZ2 hS2 (lv_sub hl [0, 1, 2, 3] rfl)
  · replace hf := gpos hf h6
    refine gldcwS hx hb hown (hX.2.2.2.2.1 44 _ rfl).1 (D_19 W_prog_15_method_159_code_0 28 rfl rfl rfl) ?_
    refine lv_goto (tgt := 37) hx hb (D_167 W_prog_15_method_159_code_0 31 rfl rfl rfl) (by decide) ?_
    exact b_M_downVoice_37 X hf hZ2 hS2 (lv_sub hl [0, 1, 2, 3] rfl)

abbrev Q_M_down (D : va_G) (ca : Nat → ClassId) (ad : Nat → Int → Nat → Nat) (L : List Nat) (r : Int) (F : zF) (B : zB) (A : Nat → Prop) : Array Value → State → Outcome → State → Prop := va_Qi (S := Unit) (fun p _ => p = iI r) (fun _ => zPo D ca ad lnM nM L F B A) A
def f_M_down_304 (K : Nat)  (F : zF) (B : zB) : zO := some ((-2), (zup3 F 14 0 71 0), B)
set_option maxHeartbeats 4000000 in
set_option maxRecDepth 100000 in
theorem b_M_down_304 {D : va_G} {ca : Nat → ClassId} {ad : Nat → Int → Nat → Nat} {L : List Nat} {aS vS : Nat → Nat} {A : Nat → Prop} {p : Program} {l : Launch} {e : Env} {s : State} {m : MethodId} {args : Array Value} {below : List Frame} {meth : Method} {c : Code} {K : Nat} {r : Int} {F9 : zF} {B9 : zB} (X : zX D ca L aS vS A p s m args meth c prog_15_method_153_code 7 (Option.some Jvm.ClassFile.FieldType.int) "StaveHouseModel")  {F : zF} {B : zB} {H : Heap} {locs : List Loc} {ls : Array Slot} (hf : f_M_down_304 K  F B = some (r, F9, B9)) (hZ : zH D ca ad lnM nM L F B A H) (hS : va_S A s.heap H locs) (hl : lv_has ls 7 [(0, .ref (ad 14 0 0))]) : W p l e ({ frames := 10, cells := 0, slots := 0, locals := 331 } : Room) s m args below meth c H locs 0 0 (MQ below (Q_M_down D ca ad L r F9 B9 A) args s 0 0 A) (F0 m 304 ls []) := by
  obtain ⟨hx, hb, hr, hml, hown, hts, hlk, hK, hA, hL, hX⟩ := id X
  replace hf : (some ((-2), (zup3 F 14 0 71 0), B)) = some (r, F9, B9) := hf
  refine lv_aload_n hx hb (D_42 W_prog_15_method_153_code_288 16 rfl rfl) rfl (lv_at hl 0 rfl) ?_
  refine lv_iconst (v := iI 0) hx hb (D_3 W_prog_15_method_153_code_288 17 rfl rfl) rfl ?_
  refine zput (ci := 14) (C := RX14) (T := TX14) (k := 71) (v := 0) (w := .int (iI 0)) hx hb hts inW_14 tyX14 tyX14_ok nmX14 hown hK hZ hS (by decide) (by decide) rfl (by decide) k_11_69 rfl (fun G h => congrArg (fun q => Value.int (iI q)) h) rfl rfl (zno (by decide)) (D_181 W_prog_15_method_153_code_288 18 rfl rfl rfl) (fun H60 locs60 hZ60 hS60 => ?_)
  refine lv_bipush (v := iI (-2)) hx hb (D_16 W_prog_15_method_153_code_288 21 rfl rfl rfl) (by decide) ?_
  cases hf
  exact W.iret hx hb hr (fun t ht hW => ⟨⟨_, (), rfl, rfl, by rw [ht]; exact hZ60, va_K.moved hW.alike hK⟩, hS60.F ht⟩) hS60.2.2 (D_172 W_prog_15_method_153_code_288 23 rfl rfl) hlk

def f_M_down_284 (K : Nat) (l4 : Int) (F : zF) (B : zB) : zO := if r32 l4 then (if l4 = 0 then f_M_down_304 K F B else if r32 (F 14 0 71) then (if 3000 < (F 14 0 71) then f_M_down_304 K F B else some (F 14 0 71, F, B)) else none) else none
set_option maxHeartbeats 4000000 in
set_option maxRecDepth 100000 in
theorem b_M_down_284 {D : va_G} {ca : Nat → ClassId} {ad : Nat → Int → Nat → Nat} {L : List Nat} {aS vS : Nat → Nat} {A : Nat → Prop} {p : Program} {l : Launch} {e : Env} {s : State} {m : MethodId} {args : Array Value} {below : List Frame} {meth : Method} {c : Code} {K : Nat} {r : Int} {F9 : zF} {B9 : zB} (X : zX D ca L aS vS A p s m args meth c prog_15_method_153_code 7 (Option.some Jvm.ClassFile.FieldType.int) "StaveHouseModel") {l4 : Int} {F : zF} {B : zB} {H : Heap} {locs : List Loc} {ls : Array Slot} (hf : f_M_down_284 K l4 F B = some (r, F9, B9)) (hZ : zH D ca ad lnM nM L F B A H) (hS : va_S A s.heap H locs) (hl : lv_has ls 7 [(4, .int (iI l4)), (0, .ref (ad 14 0 0))]) : W p l e ({ frames := 10, cells := 0, slots := 0, locals := 331 } : Room) s m args below meth c H locs 0 0 (MQ below (Q_M_down D ca ad L r F9 B9 A) args s 0 0 A) (F0 m 284 ls []) := by
  obtain ⟨hx, hb, hr, hml, hown, hts, hlk, hK, hA, hL, hX⟩ := id X
  replace hf : (if r32 l4 then (if l4 = 0 then f_M_down_304 K F B else if r32 (F 14 0 71) then (if 3000 < (F 14 0 71) then f_M_down_304 K F B else some (F 14 0 71, F, B)) else none) else none) = some (r, F9, B9) := hf
  refine lv_iload hx hb (D_21 W_prog_15_method_153_code_256 28 rfl rfl) (lv_at hl 0 rfl) ?_
  obtain ⟨g56, hf⟩ := gif hf
  refine z0eq (tgt := 304) hx hb g56 (D_153 W_prog_15_method_153_code_256 30 rfl rfl rfl) (by decide) (fun h57 => ?_) (fun h57 => ?_)
  · replace hf := gpos hf h57
    exact b_M_down_304 X hf hZ hS (lv_sub hl [1] rfl)
  · replace hf := gneg hf h57
    refine lv_aload_n hx hb (D_42 W_prog_15_method_153_code_288 1 rfl rfl) rfl (lv_at hl 1 rfl) ?_
    refine zget (ci := 14) (C := RX14) (T := TX14) (v := .int (iI (F 14 0 71))) (k := 71) hx hb hts inW_14 hown hK hZ (by decide) (by decide) rfl (by decide) k_11_69 rfl (D_180 W_prog_15_method_153_code_288 2 rfl rfl rfl) ?_
    refine lv_sipush (v := iI 3000) hx hb (D_17 W_prog_15_method_153_code_288 5 rfl rfl rfl) (by decide) ?_
    obtain ⟨g58, hf⟩ := gif hf
    refine zgt (tgt := 304) hx hb g58 (by decide) (D_163 W_prog_15_method_153_code_288 8 rfl rfl rfl) (by decide) (fun h59 => ?_) (fun h59 => ?_)
    · replace hf := gpos hf h59
      exact b_M_down_304 X hf hZ hS (lv_sub hl [1] rfl)
    · replace hf := gneg hf h59
      refine lv_aload_n hx hb (D_42 W_prog_15_method_153_code_288 11 rfl rfl) rfl (lv_at hl 1 rfl) ?_
      refine zget (ci := 14) (C := RX14) (T := TX14) (v := .int (iI (F 14 0 71))) (k := 71) hx hb hts inW_14 hown hK hZ (by decide) (by decide) rfl (by decide) k_11_69 rfl (D_180 W_prog_15_method_153_code_288 12 rfl rfl rfl) ?_
      cases hf
      exact W.iret hx hb hr (fun t ht hW => ⟨⟨_, (), rfl, rfl, by rw [ht]; exact hZ, va_K.moved hW.alike hK⟩, hS.F ht⟩) hS.2.2 (D_172 W_prog_15_method_153_code_288 15 rfl rfl) hlk

def f_M_down_248 (K : Nat) : Nat → Int → Int → Int → Int → zF → zB → zO
  | 0, _, _, _, _, _, _ => none
  | n + 1, l5, l4, l2, l1, F, B => if 0 ≤ (F 14 0 6) ∧ (F 14 0 6) < 3 then if r32 l5 then if r32 (F 13 (F 14 0 6) 1) then (if (F 13 (F 14 0 6) 1) ≤ l5 then f_M_down_284 K l4 F B else if r32 (F 14 0 71) then (if 3000 < (F 14 0 71) then f_M_down_284 K l4 F B else zbind (f_M_downVoice K l5 l2 l1 F B) (fun r55 F55 B55 => f_M_down_248 K n (l5 + 1) l4 l2 l1 F55 B55)) else none) else none else none else none
set_option maxHeartbeats 4000000 in
set_option maxRecDepth 100000 in
theorem b_M_down_248 {D : va_G} {ca : Nat → ClassId} {ad : Nat → Int → Nat → Nat} {L : List Nat} {aS vS : Nat → Nat} {A : Nat → Prop} {p : Program} {l : Launch} {e : Env} {s : State} {m : MethodId} {args : Array Value} {below : List Frame} {meth : Method} {c : Code} {K : Nat} {r : Int} {F9 : zF} {B9 : zB} (X : zX D ca L aS vS A p s m args meth c prog_15_method_153_code 7 (Option.some Jvm.ClassFile.FieldType.int) "StaveHouseModel") : ∀ {n : Nat} {l5 : Int} {l4 : Int} {l2 : Int} {l1 : Int} {F : zF} {B : zB} {H : Heap} {locs : List Loc} {ls : Array Slot}, f_M_down_248 K n l5 l4 l2 l1 F B = some (r, F9, B9) → zH D ca ad lnM nM L F B A H → va_S A s.heap H locs → lv_has ls 7 [(5, .int (iI l5)), (4, .int (iI l4)), (2, .long (lI l2)), (0, .ref (ad 14 0 0)), (1, .int (iI l1))] → W p l e ({ frames := 10, cells := 0, slots := 0, locals := 331 } : Room) s m args below meth c H locs 0 0 (MQ below (Q_M_down D ca ad L r F9 B9 A) args s 0 0 A) (F0 m 248 ls []) := by
  obtain ⟨hx, hb, hr, hml, hown, hts, hlk, hK, hA, hL, hX⟩ := id X
  intro n
  induction n with
  | zero =>
    intros
    rename_i hf _ _ _
    cases hf
  | succ n ih =>
    intro l5 l4 l2 l1 F B H locs ls hf hZ hS hl
    replace hf : (if 0 ≤ (F 14 0 6) ∧ (F 14 0 6) < 3 then if r32 l5 then if r32 (F 13 (F 14 0 6) 1) then (if (F 13 (F 14 0 6) 1) ≤ l5 then f_M_down_284 K l4 F B else if r32 (F 14 0 71) then (if 3000 < (F 14 0 71) then f_M_down_284 K l4 F B else zbind (f_M_downVoice K l5 l2 l1 F B) (fun r55 F55 B55 => f_M_down_248 K n (l5 + 1) l4 l2 l1 F55 B55)) else none) else none else none else none) = some (r, F9, B9) := hf
    refine lv_iload hx hb (D_21 W_prog_15_method_153_code_224 24 rfl rfl) (lv_at hl 0 rfl) ?_
    refine lv_aload_n hx hb (D_42 W_prog_15_method_153_code_224 26 rfl rfl) rfl (lv_at hl 3 rfl) ?_
    refine zget (ci := 14) (C := RX14) (T := TX14) (v := va_rf (zrf ad 13 (F 14 0 6))) (k := 6) hx hb hts inW_14 hown hK hZ (by decide) (by decide) rfl (by decide) k_11_4 rfl (D_180 W_prog_15_method_153_code_224 27 rfl rfl rfl) ?_
    obtain ⟨g49, hf⟩ := gif hf
    refine zunrf g49.1 ?_
    refine zget (ci := 13) (C := RX13) (T := TX13) (v := .int (iI (F 13 (F 14 0 6) 1))) (k := 1) hx hb hts inW_13 hown hK hZ g49.1 g49.2 rfl (by decide) k_9_126 rfl (D_180 W_prog_15_method_153_code_224 30 rfl rfl rfl) ?_
    obtain ⟨g50, hf⟩ := gif hf
    obtain ⟨g51, hf⟩ := gif hf
    refine zge (tgt := 284) hx hb g50 g51 (D_162 W_prog_15_method_153_code_256 1 rfl rfl rfl) (by decide) (fun h52 => ?_) (fun h52 => ?_)
    · replace hf := gpos hf h52
      exact b_M_down_284 X hf hZ hS (lv_sub hl [1, 3] rfl)
    · replace hf := gneg hf h52
      refine lv_aload_n hx hb (D_42 W_prog_15_method_153_code_256 4 rfl rfl) rfl (lv_at hl 3 rfl) ?_
      refine zget (ci := 14) (C := RX14) (T := TX14) (v := .int (iI (F 14 0 71))) (k := 71) hx hb hts inW_14 hown hK hZ (by decide) (by decide) rfl (by decide) k_11_69 rfl (D_180 W_prog_15_method_153_code_256 5 rfl rfl rfl) ?_
      refine lv_sipush (v := iI 3000) hx hb (D_17 W_prog_15_method_153_code_256 8 rfl rfl rfl) (by decide) ?_
      obtain ⟨g53, hf⟩ := gif hf
      refine zgt (tgt := 284) hx hb g53 (by decide) (D_163 W_prog_15_method_153_code_256 11 rfl rfl rfl) (by decide) (fun h54 => ?_) (fun h54 => ?_)
      · replace hf := gpos hf h54
        exact b_M_down_284 X hf hZ hS (lv_sub hl [1, 3] rfl)
      · replace hf := gneg hf h54
        refine lv_aload_n hx hb (D_42 W_prog_15_method_153_code_256 14 rfl rfl) rfl (lv_at hl 3 rfl) ?_
        refine lv_iload hx hb (D_21 W_prog_15_method_153_code_256 15 rfl rfl) (lv_at hl 0 rfl) ?_
        refine lv_lload_n hx hb (D_32 W_prog_15_method_153_code_256 17 rfl rfl) rfl (lv_at hl 2 rfl) ?_
        refine lv_iload_n hx hb (D_27 W_prog_15_method_153_code_256 18 rfl rfl) rfl (lv_at hl 4 rfl) ?_
        obtain ⟨r55, F55, B55, hc55, hf⟩ := gbind hf
        refine va_callv (va_runV (As := [.int (iI l5), .long (lI l2), .int (iI l1)]) (rest := []) ⟨hx, hb, hml, hown, hts⟩ (c_M_downVoice (l := l) hc55) (cwV 3 hts (gdV k_13_120 k_13_122 ks_172 k_1_9 k_13_123) rfl rfl rfl (by decide +kernel) ⟨Nat.le_of_ble_eq_true rfl, Nat.le_of_ble_eq_true rfl⟩) (zPV X hZ hS (ci := 14) (by decide) (by decide) (r := (RX14, TX14, 107)) rfl [.int (iI l5), .long (lI l2), .int (iI l1)]) rfl rfl hl.1 rfl (lv_room (Nat.le_of_ble_eq_true rfl)) (D_182 W_prog_15_method_153_code_256 19 rfl rfl rfl) ⟨Nat.le_of_ble_eq_true rfl, Nat.le_of_ble_eq_true rfl⟩) hS (fun q _ h => zAin X hS q h) (zAin X hS) (fun u55 t55 H55 locs55 ht55 hv55 hw55 hB55 hz55 hk55 hS55 => ?_)
        have hZ55 := zBack X ht55 hB55
        refine lv_iinc (v := iI (l5 + 1)) (lv' := [(5, .int (iI (l5 + 1))), (4, .int (iI l4)), (2, .long (lI l2)), (0, .ref (ad 14 0 0)), (1, .int (iI l1))]) hx hb d_15_153_278 hl (k := 0) rfl (iI_add _ 1) (by decide) rfl (fun ls hl => ?_)
        refine lv_goto (tgt := 248) hx hb (D_167 W_prog_15_method_153_code_256 25 rfl rfl rfl) (by decide) ?_
        exact ih hf hZ55 hS55 (lv_sub hl [0, 1, 2, 3, 4] rfl)

def f_M_down_234 (K : Nat) (l2 : Int) (l1 : Int) (s0 : Int) (F : zF) (B : zB) : zO := if r32 s0 then (if s0 = 0 then f_M_down_284 K s0 F B else zbind (f_M_downHeads K F B) (fun r48 F48 B48 => f_M_down_248 K K 0 s0 l2 l1 F48 B48)) else none
set_option maxHeartbeats 4000000 in
set_option maxRecDepth 100000 in
theorem b_M_down_234 {D : va_G} {ca : Nat → ClassId} {ad : Nat → Int → Nat → Nat} {L : List Nat} {aS vS : Nat → Nat} {A : Nat → Prop} {p : Program} {l : Launch} {e : Env} {s : State} {m : MethodId} {args : Array Value} {below : List Frame} {meth : Method} {c : Code} {K : Nat} {r : Int} {F9 : zF} {B9 : zB} (X : zX D ca L aS vS A p s m args meth c prog_15_method_153_code 7 (Option.some Jvm.ClassFile.FieldType.int) "StaveHouseModel") {l2 : Int} {l1 : Int} {s0 : Int} {F : zF} {B : zB} {H : Heap} {locs : List Loc} {ls : Array Slot} (hf : f_M_down_234 K l2 l1 s0 F B = some (r, F9, B9)) (hZ : zH D ca ad lnM nM L F B A H) (hS : va_S A s.heap H locs) (hl : lv_has ls 7 [(2, .long (lI l2)), (0, .ref (ad 14 0 0)), (1, .int (iI l1))]) : W p l e ({ frames := 10, cells := 0, slots := 0, locals := 331 } : Room) s m args below meth c H locs 0 0 (MQ below (Q_M_down D ca ad L r F9 B9 A) args s 0 0 A) (F0 m 234 ls [.int (iI s0)]) := by
  obtain ⟨hx, hb, hr, hml, hown, hts, hlk, hK, hA, hL, hX⟩ := id X
  replace hf : (if r32 s0 then (if s0 = 0 then f_M_down_284 K s0 F B else zbind (f_M_downHeads K F B) (fun r48 F48 B48 => f_M_down_248 K K 0 s0 l2 l1 F48 B48)) else none) = some (r, F9, B9) := hf
  refine lv_istore (lv' := [(4, .int (iI s0)), (2, .long (lI l2)), (0, .ref (ad 14 0 0)), (1, .int (iI l1))]) hx hb (D_54 W_prog_15_method_153_code_224 10 rfl rfl) hl (by decide) rfl (fun ls hl => ?_)
  refine lv_iload hx hb (D_21 W_prog_15_method_153_code_224 12 rfl rfl) (lv_at hl 0 rfl) ?_
  obtain ⟨g46, hf⟩ := gif hf
  refine z0eq (tgt := 284) hx hb g46 (D_153 W_prog_15_method_153_code_224 14 rfl rfl rfl) (by decide) (fun h47 => ?_) (fun h47 => ?_)
  · replace hf := gpos hf h47
    exact b_M_down_284 X hf hZ hS (lv_sub hl [0, 2] rfl)
  · replace hf := gneg hf h47
    refine lv_aload_n hx hb (D_42 W_prog_15_method_153_code_224 17 rfl rfl) rfl (lv_at hl 2 rfl) ?_
    obtain ⟨r48, F48, B48, hc48, hf⟩ := gbind hf
    refine va_callv (va_runV (As := []) (rest := []) ⟨hx, hb, hml, hown, hts⟩ (c_M_downHeads (l := l) hc48) (cwV 0 hts (gdV k_13_107 k_13_109 ks_170 k_1_9 k_13_110) rfl rfl rfl (by decide +kernel) ⟨Nat.le_of_ble_eq_true rfl, Nat.le_of_ble_eq_true rfl⟩) (zPV X hZ hS (ci := 14) (by decide) (by decide) (r := (RX14, TX14, 107)) rfl []) rfl rfl hl.1 rfl (lv_room (Nat.le_of_ble_eq_true rfl)) (D_182 W_prog_15_method_153_code_224 18 rfl rfl rfl) ⟨Nat.le_of_ble_eq_true rfl, Nat.le_of_ble_eq_true rfl⟩) hS (fun q _ h => zAin X hS q h) (zAin X hS) (fun u48 t48 H48 locs48 ht48 hv48 hw48 hB48 hz48 hk48 hS48 => ?_)
    have hZ48 := zBack X ht48 hB48
    refine lv_iconst (v := iI 0) hx hb (D_3 W_prog_15_method_153_code_224 21 rfl rfl) rfl ?_
    refine lv_istore (lv' := [(5, .int (iI 0)), (4, .int (iI s0)), (2, .long (lI l2)), (0, .ref (ad 14 0 0)), (1, .int (iI l1))]) hx hb (D_54 W_prog_15_method_153_code_224 22 rfl rfl) hl (by decide) rfl (fun ls hl => ?_)
    exact b_M_down_248 X hf hZ48 hS48 (lv_sub hl [0, 1, 2, 3, 4] rfl)

def f_M_down_200 (K : Nat) (l2 : Int) (l1 : Int) (F : zF) (B : zB) : zO := if r32 l1 then if 0 ≤ (F 14 0 6) ∧ (F 14 0 6) < 3 then if r32 (F 13 (F 14 0 6) 4) then if r32 (F 13 (F 14 0 6) 5) then zbind (f_M_compare K l2 l1 (100 * (F 13 (F 14 0 6) 4)) (F 13 (F 14 0 6) 5) F B) (fun r43 F43 B43 => if r32 r43 then (if 0 < r43 then f_M_down_234 K l2 l1 0 F43 B43 else f_M_down_234 K l2 l1 1 F43 B43) else none) else none else none else none else none
set_option maxHeartbeats 4000000 in
set_option maxRecDepth 100000 in
theorem b_M_down_200 {D : va_G} {ca : Nat → ClassId} {ad : Nat → Int → Nat → Nat} {L : List Nat} {aS vS : Nat → Nat} {A : Nat → Prop} {p : Program} {l : Launch} {e : Env} {s : State} {m : MethodId} {args : Array Value} {below : List Frame} {meth : Method} {c : Code} {K : Nat} {r : Int} {F9 : zF} {B9 : zB} (X : zX D ca L aS vS A p s m args meth c prog_15_method_153_code 7 (Option.some Jvm.ClassFile.FieldType.int) "StaveHouseModel") {l2 : Int} {l1 : Int} {F : zF} {B : zB} {H : Heap} {locs : List Loc} {ls : Array Slot} (hf : f_M_down_200 K l2 l1 F B = some (r, F9, B9)) (hZ : zH D ca ad lnM nM L F B A H) (hS : va_S A s.heap H locs) (hl : lv_has ls 7 [(2, .long (lI l2)), (0, .ref (ad 14 0 0)), (1, .int (iI l1))]) : W p l e ({ frames := 10, cells := 0, slots := 0, locals := 331 } : Room) s m args below meth c H locs 0 0 (MQ below (Q_M_down D ca ad L r F9 B9 A) args s 0 0 A) (F0 m 200 ls []) := by
  obtain ⟨hx, hb, hr, hml, hown, hts, hlk, hK, hA, hL, hX⟩ := id X
  replace hf : (if r32 l1 then if 0 ≤ (F 14 0 6) ∧ (F 14 0 6) < 3 then if r32 (F 13 (F 14 0 6) 4) then if r32 (F 13 (F 14 0 6) 5) then zbind (f_M_compare K l2 l1 (100 * (F 13 (F 14 0 6) 4)) (F 13 (F 14 0 6) 5) F B) (fun r43 F43 B43 => if r32 r43 then (if 0 < r43 then f_M_down_234 K l2 l1 0 F43 B43 else f_M_down_234 K l2 l1 1 F43 B43) else none) else none else none else none else none) = some (r, F9, B9) := hf
  refine lv_lload_n hx hb (D_32 W_prog_15_method_153_code_192 8 rfl rfl) rfl (lv_at hl 0 rfl) ?_
  refine lv_iload_n hx hb (D_27 W_prog_15_method_153_code_192 9 rfl rfl) rfl (lv_at hl 2 rfl) ?_
  obtain ⟨g39, hf⟩ := gif hf
  refine zi2l hx hb g39 (D_133 W_prog_15_method_153_code_192 10 rfl rfl) ?_
  refine lv_ldc2 hx hb hown (hts _ k_13_103) (D_20 W_prog_15_method_153_code_192 11 rfl rfl rfl) ?_
  refine W.eq (g2 := F0 m 206 ls [.long (lI 100), .long (lI l1), .long (lI l2)]) rfl ?_
  refine lv_aload_n hx hb (D_42 W_prog_15_method_153_code_192 14 rfl rfl) rfl (lv_at hl 1 rfl) ?_
  refine zget (ci := 14) (C := RX14) (T := TX14) (v := va_rf (zrf ad 13 (F 14 0 6))) (k := 6) hx hb hts inW_14 hown hK hZ (by decide) (by decide) rfl (by decide) k_11_4 rfl (D_180 W_prog_15_method_153_code_192 15 rfl rfl rfl) ?_
  obtain ⟨g40, hf⟩ := gif hf
  refine zunrf g40.1 ?_
  refine zget (ci := 13) (C := RX13) (T := TX13) (v := .int (iI (F 13 (F 14 0 6) 4))) (k := 4) hx hb hts inW_13 hown hK hZ g40.1 g40.2 rfl (by decide) k_9_129 rfl (D_180 W_prog_15_method_153_code_192 18 rfl rfl rfl) ?_
  obtain ⟨g41, hf⟩ := gif hf
  refine zi2l hx hb g41 (D_133 W_prog_15_method_153_code_192 21 rfl rfl) ?_
  refine zlmul hx hb (D_105 W_prog_15_method_153_code_192 22 rfl rfl) ?_
  refine lv_aload_n hx hb (D_42 W_prog_15_method_153_code_192 23 rfl rfl) rfl (lv_at hl 1 rfl) ?_
  refine zget (ci := 14) (C := RX14) (T := TX14) (v := va_rf (zrf ad 13 (F 14 0 6))) (k := 6) hx hb hts inW_14 hown hK hZ (by decide) (by decide) rfl (by decide) k_11_4 rfl (D_180 W_prog_15_method_153_code_192 24 rfl rfl rfl) ?_
  refine zunrf g40.1 ?_
  refine zget (ci := 13) (C := RX13) (T := TX13) (v := .int (iI (F 13 (F 14 0 6) 5))) (k := 5) hx hb hts inW_13 hown hK hZ g40.1 g40.2 rfl (by decide) k_9_130 rfl (D_180 W_prog_15_method_153_code_192 27 rfl rfl rfl) ?_
  obtain ⟨g42, hf⟩ := gif hf
  refine zi2l hx hb g42 (D_133 W_prog_15_method_153_code_192 30 rfl rfl) ?_
  obtain ⟨r43, F43, B43, hc43, hf⟩ := gbind hf
  refine va_calli (va_runS (As := [.long (lI l2), .long (lI l1), .long (lI (100 * (F 13 (F 14 0 6) 4))), .long (lI (F 13 (F 14 0 6) 5))]) (rest := []) ⟨hx, hb, hml, hown, hts⟩ (c_M_compare (l := l) hc43) (va_cwS 4 hts (gdS k_13_104 k_13_105 k_1_9 k_13_106) rfl rfl rfl (by decide +kernel) ⟨Nat.le_of_ble_eq_true rfl, Nat.le_of_ble_eq_true rfl⟩) (zPS X hZ hS [.long (lI l2), .long (lI l1), .long (lI (100 * (F 13 (F 14 0 6) 4))), .long (lI (F 13 (F 14 0 6) 5))]) rfl rfl hl.1 rfl (lv_room (Nat.le_of_ble_eq_true rfl)) (D_184 W_prog_15_method_153_code_192 31 rfl rfl rfl) ⟨Nat.le_of_ble_eq_true rfl, Nat.le_of_ble_eq_true rfl⟩) hS (fun q _ h => zAin X hS q h) (zAin X hS) (fun p43 u43 t43 H43 locs43 ht43 hv43 hw43 hB43 hz43 hk43 hS43 => ?_)
  have hZ43 := zBack X ht43 hB43
  subst hw43
  obtain ⟨g44, hf⟩ := gif hf
  refine z0gt (tgt := 233) hx hb g44 (D_157 W_prog_15_method_153_code_224 2 rfl rfl rfl) (by decide) (fun h45 => ?_) (fun h45 => ?_)
  · replace hf := gpos hf h45
    refine lv_iconst (v := iI 0) hx hb (D_3 W_prog_15_method_153_code_224 9 rfl rfl) rfl ?_
    exact b_M_down_234 X hf hZ43 hS43 (lv_sub hl [0, 1, 2] rfl)
  · replace hf := gneg hf h45
    refine lv_iconst (v := iI 1) hx hb (D_4 W_prog_15_method_153_code_224 5 rfl rfl) rfl ?_
    refine lv_goto (tgt := 234) hx hb (D_167 W_prog_15_method_153_code_224 6 rfl rfl rfl) (by decide) ?_
    exact b_M_down_234 X hf hZ43 hS43 (lv_sub hl [0, 1, 2] rfl)

def f_M_down_194 (rec121 : Int → Int → Int → zF → zB → zO) (K : Nat) (l4 : Int) (l2 : Int) (l1 : Int) (F : zF) (B : zB) : zO := rec121 (l4 + 1) l2 l1 F B
set_option maxHeartbeats 4000000 in
set_option maxRecDepth 100000 in
theorem b_M_down_194 {D : va_G} {ca : Nat → ClassId} {ad : Nat → Int → Nat → Nat} {L : List Nat} {aS vS : Nat → Nat} {A : Nat → Prop} {p : Program} {l : Launch} {e : Env} {s : State} {m : MethodId} {args : Array Value} {below : List Frame} {meth : Method} {c : Code} {K : Nat} {r : Int} {F9 : zF} {B9 : zB} (X : zX D ca L aS vS A p s m args meth c prog_15_method_153_code 7 (Option.some Jvm.ClassFile.FieldType.int) "StaveHouseModel") {rec121 : Int → Int → Int → zF → zB → zO} (hrec121 : ∀ {l4 : Int} {l2 : Int} {l1 : Int} {F : zF} {B : zB} {H : Heap} {locs : List Loc} {ls : Array Slot}, rec121 l4 l2 l1 F B = some (r, F9, B9) → zH D ca ad lnM nM L F B A H → va_S A s.heap H locs → lv_has ls 7 [(4, .int (iI l4)), (2, .long (lI l2)), (0, .ref (ad 14 0 0)), (1, .int (iI l1))] → W p l e ({ frames := 10, cells := 0, slots := 0, locals := 331 } : Room) s m args below meth c H locs 0 0 (MQ below (Q_M_down D ca ad L r F9 B9 A) args s 0 0 A) (F0 m 121 ls [])) {l4 : Int} {l2 : Int} {l1 : Int} {F : zF} {B : zB} {H : Heap} {locs : List Loc} {ls : Array Slot} (hf : f_M_down_194 rec121 K l4 l2 l1 F B = some (r, F9, B9)) (hZ : zH D ca ad lnM nM L F B A H) (hS : va_S A s.heap H locs) (hl : lv_has ls 7 [(4, .int (iI l4)), (2, .long (lI l2)), (0, .ref (ad 14 0 0)), (1, .int (iI l1))]) : W p l e ({ frames := 10, cells := 0, slots := 0, locals := 331 } : Room) s m args below meth c H locs 0 0 (MQ below (Q_M_down D ca ad L r F9 B9 A) args s 0 0 A) (F0 m 194 ls []) := by
  obtain ⟨hx, hb, hr, hml, hown, hts, hlk, hK, hA, hL, hX⟩ := id X
  replace hf : (rec121 (l4 + 1) l2 l1 F B) = some (r, F9, B9) := hf
  refine lv_iinc (v := iI (l4 + 1)) (lv' := [(4, .int (iI (l4 + 1))), (2, .long (lI l2)), (0, .ref (ad 14 0 0)), (1, .int (iI l1))]) hx hb d_15_153_194 hl (k := 0) rfl (iI_add _ 1) (by decide) rfl (fun ls hl => ?_)
  refine lv_goto (tgt := 121) hx hb (D_167 W_prog_15_method_153_code_192 5 rfl rfl rfl) (by decide) ?_
  exact hrec121 hf hZ hS (lv_sub hl [0, 1, 2, 3] rfl)

def f_M_down_181 (rec121 : Int → Int → Int → zF → zB → zO) (K : Nat) (l4 : Int) (l2 : Int) (l1 : Int) (F : zF) (B : zB) : zO := if 0 ≤ (F 14 0 6) ∧ (F 14 0 6) < 3 then f_M_down_194 rec121 K l4 l2 l1 (zup3 F 13 (F 14 0 6) 1 ((F 13 (F 14 0 6) 1) + 1)) B else none
set_option maxHeartbeats 4000000 in
set_option maxRecDepth 100000 in
theorem b_M_down_181 {D : va_G} {ca : Nat → ClassId} {ad : Nat → Int → Nat → Nat} {L : List Nat} {aS vS : Nat → Nat} {A : Nat → Prop} {p : Program} {l : Launch} {e : Env} {s : State} {m : MethodId} {args : Array Value} {below : List Frame} {meth : Method} {c : Code} {K : Nat} {r : Int} {F9 : zF} {B9 : zB} (X : zX D ca L aS vS A p s m args meth c prog_15_method_153_code 7 (Option.some Jvm.ClassFile.FieldType.int) "StaveHouseModel") {rec121 : Int → Int → Int → zF → zB → zO} (hrec121 : ∀ {l4 : Int} {l2 : Int} {l1 : Int} {F : zF} {B : zB} {H : Heap} {locs : List Loc} {ls : Array Slot}, rec121 l4 l2 l1 F B = some (r, F9, B9) → zH D ca ad lnM nM L F B A H → va_S A s.heap H locs → lv_has ls 7 [(4, .int (iI l4)), (2, .long (lI l2)), (0, .ref (ad 14 0 0)), (1, .int (iI l1))] → W p l e ({ frames := 10, cells := 0, slots := 0, locals := 331 } : Room) s m args below meth c H locs 0 0 (MQ below (Q_M_down D ca ad L r F9 B9 A) args s 0 0 A) (F0 m 121 ls [])) {l4 : Int} {l2 : Int} {l1 : Int} {F : zF} {B : zB} {H : Heap} {locs : List Loc} {ls : Array Slot} (hf : f_M_down_181 rec121 K l4 l2 l1 F B = some (r, F9, B9)) (hZ : zH D ca ad lnM nM L F B A H) (hS : va_S A s.heap H locs) (hl : lv_has ls 7 [(4, .int (iI l4)), (2, .long (lI l2)), (0, .ref (ad 14 0 0)), (1, .int (iI l1))]) : W p l e ({ frames := 10, cells := 0, slots := 0, locals := 331 } : Room) s m args below meth c H locs 0 0 (MQ below (Q_M_down D ca ad L r F9 B9 A) args s 0 0 A) (F0 m 181 ls []) := by
  obtain ⟨hx, hb, hr, hml, hown, hts, hlk, hK, hA, hL, hX⟩ := id X
  replace hf : (if 0 ≤ (F 14 0 6) ∧ (F 14 0 6) < 3 then f_M_down_194 rec121 K l4 l2 l1 (zup3 F 13 (F 14 0 6) 1 ((F 13 (F 14 0 6) 1) + 1)) B else none) = some (r, F9, B9) := hf
  refine lv_aload_n hx hb (D_42 W_prog_15_method_153_code_160 21 rfl rfl) rfl (lv_at hl 2 rfl) ?_
  refine zget (ci := 14) (C := RX14) (T := TX14) (v := va_rf (zrf ad 13 (F 14 0 6))) (k := 6) hx hb hts inW_14 hown hK hZ (by decide) (by decide) rfl (by decide) k_11_4 rfl (D_180 W_prog_15_method_153_code_160 22 rfl rfl rfl) ?_
  refine lv_dup hx hb (D_89 W_prog_15_method_153_code_160 25 rfl rfl) (zcat _) ?_
  obtain ⟨g37, hf⟩ := gif hf
  refine zunrf g37.1 ?_
  refine zget (ci := 13) (C := RX13) (T := TX13) (v := .int (iI (F 13 (F 14 0 6) 1))) (k := 1) hx hb hts inW_13 hown hK hZ g37.1 g37.2 rfl (by decide) k_9_126 rfl (D_180 W_prog_15_method_153_code_160 26 rfl rfl rfl) ?_
  refine lv_iconst (v := iI 1) hx hb (D_4 W_prog_15_method_153_code_160 29 rfl rfl) rfl ?_
  refine zadd hx hb (D_96 W_prog_15_method_153_code_160 30 rfl rfl) ?_
  refine W.eq (g2 := F0 m 191 ls [.int (iI ((F 13 (F 14 0 6) 1) + 1)), .ref (ad 13 (F 14 0 6) 0)]) (by rw [zrf_pos (ad := ad) (t := 13) g37.1]; try rfl) ?_
  refine zput (ci := 13) (C := RX13) (T := TX13) (k := 1) (v := ((F 13 (F 14 0 6) 1) + 1)) (w := .int (iI ((F 13 (F 14 0 6) 1) + 1))) hx hb hts inW_13 tyX13 tyX13_ok nmX13 hown hK hZ hS g37.1 g37.2 rfl (by decide) k_9_126 rfl (fun G h => congrArg (fun q => Value.int (iI q)) h) rfl rfl (zno (by decide)) (D_181 W_prog_15_method_153_code_160 31 rfl rfl rfl) (fun H38 locs38 hZ38 hS38 => ?_)
  exact b_M_down_194 X hrec121 hf hZ38 hS38 (lv_sub hl [0, 1, 2, 3] rfl)

def f_M_down_121 (K : Nat) : Nat → Int → Int → Int → zF → zB → zO
  | 0, _, _, _, _, _ => none
  | n + 1, l4, l2, l1, F, B => if r32 l4 then if r32 (B 14 0 73 0) then (if (B 14 0 73 0) ≤ l4 then f_M_down_200 K l2 l1 F B else if 0 ≤ (F 14 0 6) ∧ (F 14 0 6) < 3 then if r32 (F 13 (F 14 0 6) 1) then (if 4 ≤ (F 13 (F 14 0 6) 1) then f_M_down_200 K l2 l1 F B else zbind (f_M_hasSounds K l4 F B) (fun r28 F28 B28 => if r32 r28 then (if r28 = 0 then f_M_down_194 (f_M_down_121 K n) K l4 l2 l1 F28 B28 else if 0 ≤ (F28 14 0 6) ∧ (F28 14 0 6) < 3 then zbind (f_M_trackEvents K l4 (F28 13 (F28 14 0 6) 1) l1 F28 B28) (fun r33 F33 B33 => if r64 r33 then if r64 l2 then (if (zcmp r33 l2) ≤ 0 then f_M_down_181 (f_M_down_121 K n) K l4 l2 l1 F33 B33 else f_M_down_181 (f_M_down_121 K n) K l4 r33 l1 F33 B33) else none else none) else none) else none)) else none else none) else none else none
set_option maxHeartbeats 4000000 in
set_option maxRecDepth 100000 in
theorem b_M_down_121 {D : va_G} {ca : Nat → ClassId} {ad : Nat → Int → Nat → Nat} {L : List Nat} {aS vS : Nat → Nat} {A : Nat → Prop} {p : Program} {l : Launch} {e : Env} {s : State} {m : MethodId} {args : Array Value} {below : List Frame} {meth : Method} {c : Code} {K : Nat} {r : Int} {F9 : zF} {B9 : zB} (X : zX D ca L aS vS A p s m args meth c prog_15_method_153_code 7 (Option.some Jvm.ClassFile.FieldType.int) "StaveHouseModel") : ∀ {n : Nat} {l4 : Int} {l2 : Int} {l1 : Int} {F : zF} {B : zB} {H : Heap} {locs : List Loc} {ls : Array Slot}, f_M_down_121 K n l4 l2 l1 F B = some (r, F9, B9) → zH D ca ad lnM nM L F B A H → va_S A s.heap H locs → lv_has ls 7 [(4, .int (iI l4)), (2, .long (lI l2)), (0, .ref (ad 14 0 0)), (1, .int (iI l1))] → W p l e ({ frames := 10, cells := 0, slots := 0, locals := 331 } : Room) s m args below meth c H locs 0 0 (MQ below (Q_M_down D ca ad L r F9 B9 A) args s 0 0 A) (F0 m 121 ls []) := by
  obtain ⟨hx, hb, hr, hml, hown, hts, hlk, hK, hA, hL, hX⟩ := id X
  intro n
  induction n with
  | zero =>
    intros
    rename_i hf _ _ _
    cases hf
  | succ n ih =>
    intro l4 l2 l1 F B H locs ls hf hZ hS hl
    replace hf : (if r32 l4 then if r32 (B 14 0 73 0) then (if (B 14 0 73 0) ≤ l4 then f_M_down_200 K l2 l1 F B else if 0 ≤ (F 14 0 6) ∧ (F 14 0 6) < 3 then if r32 (F 13 (F 14 0 6) 1) then (if 4 ≤ (F 13 (F 14 0 6) 1) then f_M_down_200 K l2 l1 F B else zbind (f_M_hasSounds K l4 F B) (fun r28 F28 B28 => if r32 r28 then (if r28 = 0 then f_M_down_194 (f_M_down_121 K n) K l4 l2 l1 F28 B28 else if 0 ≤ (F28 14 0 6) ∧ (F28 14 0 6) < 3 then zbind (f_M_trackEvents K l4 (F28 13 (F28 14 0 6) 1) l1 F28 B28) (fun r33 F33 B33 => if r64 r33 then if r64 l2 then (if (zcmp r33 l2) ≤ 0 then f_M_down_181 (f_M_down_121 K n) K l4 l2 l1 F33 B33 else f_M_down_181 (f_M_down_121 K n) K l4 r33 l1 F33 B33) else none else none) else none) else none)) else none else none) else none else none) = some (r, F9, B9) := hf
    refine lv_iload hx hb (D_21 W_prog_15_method_153_code_96 25 rfl rfl) (lv_at hl 0 rfl) ?_
    refine lv_aload_n hx hb (D_42 W_prog_15_method_153_code_96 27 rfl rfl) rfl (lv_at hl 2 rfl) ?_
    refine zget (ci := 14) (C := RX14) (T := TX14) (v := .ref (ad 14 0 (73 + 1))) (k := 73) hx hb hts inW_14 hown hK hZ (by decide) (by decide) rfl (by decide) k_11_71 rfl (D_180 W_prog_15_method_153_code_96 28 rfl rfl rfl) ?_
    refine lv_iconst (v := iI 0) hx hb (D_3 W_prog_15_method_153_code_96 31 rfl rfl) rfl ?_
    refine zald (ci := 14) (k := 73) hx hb hK rfl hZ (by decide) (by decide) rfl (Nat.le_of_ble_eq_true rfl) (by decide) (by decide) (D_46 W_prog_15_method_153_code_128 0 rfl rfl) ?_
    obtain ⟨g22, hf⟩ := gif hf
    obtain ⟨g23, hf⟩ := gif hf
    refine zge (tgt := 200) hx hb g22 g23 (D_162 W_prog_15_method_153_code_128 1 rfl rfl rfl) (by decide) (fun h24 => ?_) (fun h24 => ?_)
    · replace hf := gpos hf h24
      exact b_M_down_200 X hf hZ hS (lv_sub hl [1, 2, 3] rfl)
    · replace hf := gneg hf h24
      refine lv_aload_n hx hb (D_42 W_prog_15_method_153_code_128 4 rfl rfl) rfl (lv_at hl 2 rfl) ?_
      refine zget (ci := 14) (C := RX14) (T := TX14) (v := va_rf (zrf ad 13 (F 14 0 6))) (k := 6) hx hb hts inW_14 hown hK hZ (by decide) (by decide) rfl (by decide) k_11_4 rfl (D_180 W_prog_15_method_153_code_128 5 rfl rfl rfl) ?_
      obtain ⟨g25, hf⟩ := gif hf
      refine zunrf g25.1 ?_
      refine zget (ci := 13) (C := RX13) (T := TX13) (v := .int (iI (F 13 (F 14 0 6) 1))) (k := 1) hx hb hts inW_13 hown hK hZ g25.1 g25.2 rfl (by decide) k_9_126 rfl (D_180 W_prog_15_method_153_code_128 8 rfl rfl rfl) ?_
      refine lv_iconst (v := iI 4) hx hb (D_7 W_prog_15_method_153_code_128 11 rfl rfl) rfl ?_
      obtain ⟨g26, hf⟩ := gif hf
      refine zge (tgt := 200) hx hb g26 (by decide) (D_162 W_prog_15_method_153_code_128 12 rfl rfl rfl) (by decide) (fun h27 => ?_) (fun h27 => ?_)
      · replace hf := gpos hf h27
        exact b_M_down_200 X hf hZ hS (lv_sub hl [1, 2, 3] rfl)
      · replace hf := gneg hf h27
        refine lv_aload_n hx hb (D_42 W_prog_15_method_153_code_128 15 rfl rfl) rfl (lv_at hl 2 rfl) ?_
        refine lv_iload hx hb (D_21 W_prog_15_method_153_code_128 16 rfl rfl) (lv_at hl 0 rfl) ?_
        obtain ⟨r28, F28, B28, hc28, hf⟩ := gbind hf
        refine va_calli (va_runV (As := [.int (iI l4)]) (rest := []) ⟨hx, hb, hml, hown, hts⟩ (c_M_hasSounds (l := l) hc28) (cwV 1 hts (gdV k_13_77 k_13_79 ks_164 k_1_9 k_13_80) rfl rfl rfl (by decide +kernel) ⟨Nat.le_of_ble_eq_true rfl, Nat.le_of_ble_eq_true rfl⟩) (zPV X hZ hS (ci := 14) (by decide) (by decide) (r := (RX14, TX14, 107)) rfl [.int (iI l4)]) rfl rfl hl.1 rfl (lv_room (Nat.le_of_ble_eq_true rfl)) (D_182 W_prog_15_method_153_code_128 18 rfl rfl rfl) ⟨Nat.le_of_ble_eq_true rfl, Nat.le_of_ble_eq_true rfl⟩) hS (fun q _ h => zAin X hS q h) (zAin X hS) (fun p28 u28 t28 H28 locs28 ht28 hv28 hw28 hB28 hz28 hk28 hS28 => ?_)
        have hZ28 := zBack X ht28 hB28
        subst hw28
        obtain ⟨g29, hf⟩ := gif hf
        refine z0ne (tgt := 155) hx hb g29 (D_154 W_prog_15_method_153_code_128 21 rfl rfl rfl) (by decide) (fun h30 => ?_) (fun h30 => ?_)
        · replace hf := gneg hf h30
          refine lv_aload_n hx hb (D_42 W_prog_15_method_153_code_128 27 rfl rfl) rfl (lv_at hl 2 rfl) ?_
          refine lv_iload hx hb (D_21 W_prog_15_method_153_code_128 28 rfl rfl) (lv_at hl 0 rfl) ?_
          refine lv_aload_n hx hb (D_42 W_prog_15_method_153_code_128 30 rfl rfl) rfl (lv_at hl 2 rfl) ?_
          refine zget (ci := 14) (C := RX14) (T := TX14) (v := va_rf (zrf ad 13 (F28 14 0 6))) (k := 6) hx hb hts inW_14 hown hK hZ28 (by decide) (by decide) rfl (by decide) k_11_4 rfl (D_180 W_prog_15_method_153_code_128 31 rfl rfl rfl) ?_
          obtain ⟨g31, hf⟩ := gif hf
          refine zunrf g31.1 ?_
          refine zget (ci := 13) (C := RX13) (T := TX13) (v := .int (iI (F28 13 (F28 14 0 6) 1))) (k := 1) hx hb hts inW_13 hown hK hZ28 g31.1 g31.2 rfl (by decide) k_9_126 rfl (D_180 W_prog_15_method_153_code_160 2 rfl rfl rfl) ?_
          refine lv_iload_n hx hb (D_27 W_prog_15_method_153_code_160 5 rfl rfl) rfl (lv_at hl 3 rfl) ?_
          obtain ⟨r33, F33, B33, hc33, hf⟩ := gbind hf
          refine va_calll (va_runV (As := [.int (iI l4), .int (iI (F28 13 (F28 14 0 6) 1)), .int (iI l1)]) (rest := []) ⟨hx, hb, hml, hown, hts⟩ (c_M_trackEvents (l := l) hc33) (cwV 3 hts (gdV k_13_81 k_13_83 ks_165 k_1_9 k_13_84) rfl rfl rfl (by decide +kernel) ⟨Nat.le_of_ble_eq_true rfl, Nat.le_of_ble_eq_true rfl⟩) (zPV X hZ28 hS28 (ci := 14) (by decide) (by decide) (r := (RX14, TX14, 107)) rfl [.int (iI l4), .int (iI (F28 13 (F28 14 0 6) 1)), .int (iI l1)]) rfl rfl hl.1 rfl (lv_room (Nat.le_of_ble_eq_true rfl)) (D_182 W_prog_15_method_153_code_160 6 rfl rfl rfl) ⟨Nat.le_of_ble_eq_true rfl, Nat.le_of_ble_eq_true rfl⟩) hS28 (fun q _ h => zAin X hS28 q h) (zAin X hS28) (fun p33 u33 t33 H33 locs33 ht33 hv33 hw33 hB33 hz33 hk33 hS33 => ?_)
          have hZ33 := zBack X ht33 hB33
          subst hw33
          refine lv_lstore (lv' := [(5, .long (lI r33)), (4, .int (iI l4)), (2, .long (lI l2)), (0, .ref (ad 14 0 0)), (1, .int (iI l1))]) hx hb (D_55 W_prog_15_method_153_code_160 9 rfl rfl) hl (by decide) rfl (fun ls hl => ?_)
          refine lv_lload hx hb (D_22 W_prog_15_method_153_code_160 11 rfl rfl) (lv_at hl 0 rfl) ?_
          refine lv_lload_n hx hb (D_32 W_prog_15_method_153_code_160 13 rfl rfl) rfl (lv_at hl 2 rfl) ?_
          obtain ⟨g34, hf⟩ := gif hf
          obtain ⟨g35, hf⟩ := gif hf
          refine zcmp_r hx hb g34 g35 (D_148 W_prog_15_method_153_code_160 14 rfl rfl) ?_
          refine z0le (tgt := 181) hx hb zcmp_32 (D_158 W_prog_15_method_153_code_160 15 rfl rfl rfl) (by decide) (fun h36 => ?_) (fun h36 => ?_)
          · replace hf := gpos hf h36
            exact b_M_down_181 X ih hf hZ33 hS33 (lv_sub hl [1, 2, 3, 4] rfl)
          · replace hf := gneg hf h36
            refine lv_lload hx hb (D_22 W_prog_15_method_153_code_160 18 rfl rfl) (lv_at hl 0 rfl) ?_
            refine lv_lstore_n (lv' := [(2, .long (lI r33)), (5, .long (lI r33)), (4, .int (iI l4)), (0, .ref (ad 14 0 0)), (1, .int (iI l1))]) hx hb (D_65 W_prog_15_method_153_code_160 20 rfl rfl) rfl hl (by decide) rfl (fun ls hl => ?_)
            exact b_M_down_181 X ih hf hZ33 hS33 (lv_sub hl [2, 0, 3, 4] rfl)
        · replace hf := gpos hf h30
          refine lv_goto (tgt := 194) hx hb (D_167 W_prog_15_method_153_code_128 24 rfl rfl rfl) (by decide) ?_
          exact b_M_down_194 X ih hf hZ28 hS28 (lv_sub hl [0, 1, 2, 3] rfl)

def f_M_down_87 (K : Nat) (l1 : Int) (s0 : Int) (s1 : Int) (F : zF) (B : zB) : zO := if 0 ≤ s0 ∧ s0 < 3 then if (s1 = 0 ∨ s1 = 1) then if 0 ≤ (F 14 0 6) ∧ (F 14 0 6) < 3 then f_M_down_121 K K 0 0 l1 (zup3 (zup3 (zup3 F 13 s0 3 s1) 13 (F 14 0 6) 4 (B 14 0 73 4)) 13 (F 14 0 6) 5 (B 14 0 73 5)) B else none else none else none
set_option maxHeartbeats 4000000 in
set_option maxRecDepth 100000 in
theorem b_M_down_87 {D : va_G} {ca : Nat → ClassId} {ad : Nat → Int → Nat → Nat} {L : List Nat} {aS vS : Nat → Nat} {A : Nat → Prop} {p : Program} {l : Launch} {e : Env} {s : State} {m : MethodId} {args : Array Value} {below : List Frame} {meth : Method} {c : Code} {K : Nat} {r : Int} {F9 : zF} {B9 : zB} (X : zX D ca L aS vS A p s m args meth c prog_15_method_153_code 7 (Option.some Jvm.ClassFile.FieldType.int) "StaveHouseModel") {l1 : Int} {s0 : Int} {s1 : Int} {F : zF} {B : zB} {H : Heap} {locs : List Loc} {ls : Array Slot} (hf : f_M_down_87 K l1 s0 s1 F B = some (r, F9, B9)) (hZ : zH D ca ad lnM nM L F B A H) (hS : va_S A s.heap H locs) (hl : lv_has ls 7 [(0, .ref (ad 14 0 0)), (1, .int (iI l1))]) : W p l e ({ frames := 10, cells := 0, slots := 0, locals := 331 } : Room) s m args below meth c H locs 0 0 (MQ below (Q_M_down D ca ad L r F9 B9 A) args s 0 0 A) (F0 m 87 ls [.int (iI s1), va_rf (zrf ad 13 s0)]) := by
  obtain ⟨hx, hb, hr, hml, hown, hts, hlk, hK, hA, hL, hX⟩ := id X
  replace hf : (if 0 ≤ s0 ∧ s0 < 3 then if (s1 = 0 ∨ s1 = 1) then if 0 ≤ (F 14 0 6) ∧ (F 14 0 6) < 3 then f_M_down_121 K K 0 0 l1 (zup3 (zup3 (zup3 F 13 s0 3 s1) 13 (F 14 0 6) 4 (B 14 0 73 4)) 13 (F 14 0 6) 5 (B 14 0 73 5)) B else none else none else none) = some (r, F9, B9) := hf
  obtain ⟨g16, hf⟩ := gif hf
  refine W.eq (g2 := F0 m 87 ls [.int (iI s1), .ref (ad 13 s0 0)]) (by rw [zrf_pos (ad := ad) (t := 13) g16.1]; try rfl) ?_
  obtain ⟨g17, hf⟩ := gif hf
  refine zput (ci := 13) (C := RX13) (T := TX13) (k := 3) (v := s1) (w := .int (iI s1)) hx hb hts inW_13 tyX13 tyX13_ok nmX13 hown hK hZ hS g16.1 g16.2 rfl (by decide) k_9_128 rfl (fun G h => congrArg (fun q => Value.int (iI q)) h) (zbool g17) (zboolF g17) (zno (by decide)) (D_181 W_prog_15_method_153_code_64 23 rfl rfl rfl) (fun H18 locs18 hZ18 hS18 => ?_)
  refine lv_aload_n hx hb (D_42 W_prog_15_method_153_code_64 26 rfl rfl) rfl (lv_at hl 0 rfl) ?_
  refine zget (ci := 14) (C := RX14) (T := TX14) (v := va_rf (zrf ad 13 (F 14 0 6))) (k := 6) hx hb hts inW_14 hown hK hZ18 (by decide) (by decide) rfl (by decide) k_11_4 (congrArg (fun q : Int => va_rf (zrf ad 13 q)) (show (zup3 F 13 s0 3 s1) 14 0 6 = F 14 0 6 by simp [zup3])) (D_180 W_prog_15_method_153_code_64 27 rfl rfl rfl) ?_
  refine lv_aload_n hx hb (D_42 W_prog_15_method_153_code_64 30 rfl rfl) rfl (lv_at hl 0 rfl) ?_
  refine zget (ci := 14) (C := RX14) (T := TX14) (v := .ref (ad 14 0 (73 + 1))) (k := 73) hx hb hts inW_14 hown hK hZ18 (by decide) (by decide) rfl (by decide) k_11_71 rfl (D_180 W_prog_15_method_153_code_64 31 rfl rfl rfl) ?_
  refine lv_iconst (v := iI 4) hx hb (D_7 W_prog_15_method_153_code_96 2 rfl rfl) rfl ?_
  refine zald (ci := 14) (k := 73) hx hb hK rfl hZ18 (by decide) (by decide) rfl (Nat.le_of_ble_eq_true rfl) (by decide) (by decide) (D_46 W_prog_15_method_153_code_96 3 rfl rfl) ?_
  obtain ⟨g19, hf⟩ := gif hf
  refine W.eq (g2 := F0 m 100 ls [.int (iI (B 14 0 73 4)), .ref (ad 13 (F 14 0 6) 0)]) (by rw [zrf_pos (ad := ad) (t := 13) g19.1]; try rfl) ?_
  refine zput (ci := 13) (C := RX13) (T := TX13) (k := 4) (v := (B 14 0 73 4)) (w := .int (iI (B 14 0 73 4))) hx hb hts inW_13 tyX13 tyX13_ok nmX13 hown hK hZ18 hS18 g19.1 g19.2 rfl (by decide) k_9_129 rfl (fun G h => congrArg (fun q => Value.int (iI q)) h) rfl rfl (zno (by decide)) (D_181 W_prog_15_method_153_code_96 4 rfl rfl rfl) (fun H20 locs20 hZ20 hS20 => ?_)
  refine lv_aload_n hx hb (D_42 W_prog_15_method_153_code_96 7 rfl rfl) rfl (lv_at hl 0 rfl) ?_
  refine zget (ci := 14) (C := RX14) (T := TX14) (v := va_rf (zrf ad 13 (F 14 0 6))) (k := 6) hx hb hts inW_14 hown hK hZ20 (by decide) (by decide) rfl (by decide) k_11_4 (congrArg (fun q : Int => va_rf (zrf ad 13 q)) (show (zup3 (zup3 F 13 s0 3 s1) 13 (F 14 0 6) 4 (B 14 0 73 4)) 14 0 6 = F 14 0 6 by simp [zup3])) (D_180 W_prog_15_method_153_code_96 8 rfl rfl rfl) ?_
  refine lv_aload_n hx hb (D_42 W_prog_15_method_153_code_96 11 rfl rfl) rfl (lv_at hl 0 rfl) ?_
  refine zget (ci := 14) (C := RX14) (T := TX14) (v := .ref (ad 14 0 (73 + 1))) (k := 73) hx hb hts inW_14 hown hK hZ20 (by decide) (by decide) rfl (by decide) k_11_71 rfl (D_180 W_prog_15_method_153_code_96 12 rfl rfl rfl) ?_
  refine lv_iconst (v := iI 5) hx hb (D_8 W_prog_15_method_153_code_96 15 rfl rfl) rfl ?_
  refine zald (ci := 14) (k := 73) hx hb hK rfl hZ20 (by decide) (by decide) rfl (Nat.le_of_ble_eq_true rfl) (by decide) (by decide) (D_46 W_prog_15_method_153_code_96 16 rfl rfl) ?_
  refine W.eq (g2 := F0 m 113 ls [.int (iI (B 14 0 73 5)), .ref (ad 13 (F 14 0 6) 0)]) (by rw [zrf_pos (ad := ad) (t := 13) g19.1]; try rfl) ?_
  refine zput (ci := 13) (C := RX13) (T := TX13) (k := 5) (v := (B 14 0 73 5)) (w := .int (iI (B 14 0 73 5))) hx hb hts inW_13 tyX13 tyX13_ok nmX13 hown hK hZ20 hS20 g19.1 g19.2 rfl (by decide) k_9_130 rfl (fun G h => congrArg (fun q => Value.int (iI q)) h) rfl rfl (zno (by decide)) (D_181 W_prog_15_method_153_code_96 17 rfl rfl rfl) (fun H21 locs21 hZ21 hS21 => ?_)
  refine lv_lconst (v := lI 0) hx hb (D_9 W_prog_15_method_153_code_96 20 rfl rfl) (by decide) ?_
  refine lv_lstore_n (lv' := [(2, .long (lI 0)), (0, .ref (ad 14 0 0)), (1, .int (iI l1))]) hx hb (D_65 W_prog_15_method_153_code_96 21 rfl rfl) rfl hl (by decide) rfl (fun ls hl => ?_)
  refine lv_iconst (v := iI 0) hx hb (D_3 W_prog_15_method_153_code_96 22 rfl rfl) rfl ?_
  refine lv_istore (lv' := [(4, .int (iI 0)), (2, .long (lI 0)), (0, .ref (ad 14 0 0)), (1, .int (iI l1))]) hx hb (D_54 W_prog_15_method_153_code_96 23 rfl rfl) hl (by decide) rfl (fun ls hl => ?_)
  exact b_M_down_121 X hf hZ21 hS21 (lv_sub hl [0, 1, 2, 3] rfl)

def f_M_down_42 (K : Nat) (l1 : Int) (F : zF) (B : zB) : zO := if 0 ≤ (F 14 0 6) ∧ (F 14 0 6) < 3 then if r32 (B 14 0 73 3) then (if (B 14 0 73 3) = 1 then f_M_down_87 K l1 (F 14 0 6) 1 (zup3 (zup3 (zup3 F 14 0 71 0) 13 (F 14 0 6) 1 0) 13 (F 14 0 6) 2 (B 14 0 73 2)) B else f_M_down_87 K l1 (F 14 0 6) 0 (zup3 (zup3 (zup3 F 14 0 71 0) 13 (F 14 0 6) 1 0) 13 (F 14 0 6) 2 (B 14 0 73 2)) B) else none else none
set_option maxHeartbeats 4000000 in
set_option maxRecDepth 100000 in
theorem b_M_down_42 {D : va_G} {ca : Nat → ClassId} {ad : Nat → Int → Nat → Nat} {L : List Nat} {aS vS : Nat → Nat} {A : Nat → Prop} {p : Program} {l : Launch} {e : Env} {s : State} {m : MethodId} {args : Array Value} {below : List Frame} {meth : Method} {c : Code} {K : Nat} {r : Int} {F9 : zF} {B9 : zB} (X : zX D ca L aS vS A p s m args meth c prog_15_method_153_code 7 (Option.some Jvm.ClassFile.FieldType.int) "StaveHouseModel") {l1 : Int} {F : zF} {B : zB} {H : Heap} {locs : List Loc} {ls : Array Slot} (hf : f_M_down_42 K l1 F B = some (r, F9, B9)) (hZ : zH D ca ad lnM nM L F B A H) (hS : va_S A s.heap H locs) (hl : lv_has ls 7 [(0, .ref (ad 14 0 0)), (1, .int (iI l1))]) : W p l e ({ frames := 10, cells := 0, slots := 0, locals := 331 } : Room) s m args below meth c H locs 0 0 (MQ below (Q_M_down D ca ad L r F9 B9 A) args s 0 0 A) (F0 m 42 ls []) := by
  obtain ⟨hx, hb, hr, hml, hown, hts, hlk, hK, hA, hL, hX⟩ := id X
  replace hf : (if 0 ≤ (F 14 0 6) ∧ (F 14 0 6) < 3 then if r32 (B 14 0 73 3) then (if (B 14 0 73 3) = 1 then f_M_down_87 K l1 (F 14 0 6) 1 (zup3 (zup3 (zup3 F 14 0 71 0) 13 (F 14 0 6) 1 0) 13 (F 14 0 6) 2 (B 14 0 73 2)) B else f_M_down_87 K l1 (F 14 0 6) 0 (zup3 (zup3 (zup3 F 14 0 71 0) 13 (F 14 0 6) 1 0) 13 (F 14 0 6) 2 (B 14 0 73 2)) B) else none else none) = some (r, F9, B9) := hf
  refine lv_aload_n hx hb (D_42 W_prog_15_method_153_code_32 10 rfl rfl) rfl (lv_at hl 0 rfl) ?_
  refine lv_iconst (v := iI 0) hx hb (D_3 W_prog_15_method_153_code_32 11 rfl rfl) rfl ?_
  refine zput (ci := 14) (C := RX14) (T := TX14) (k := 71) (v := 0) (w := .int (iI 0)) hx hb hts inW_14 tyX14 tyX14_ok nmX14 hown hK hZ hS (by decide) (by decide) rfl (by decide) k_11_69 rfl (fun G h => congrArg (fun q => Value.int (iI q)) h) rfl rfl (zno (by decide)) (D_181 W_prog_15_method_153_code_32 12 rfl rfl rfl) (fun H10 locs10 hZ10 hS10 => ?_)
  refine lv_aload_n hx hb (D_42 W_prog_15_method_153_code_32 15 rfl rfl) rfl (lv_at hl 0 rfl) ?_
  refine zget (ci := 14) (C := RX14) (T := TX14) (v := va_rf (zrf ad 13 (F 14 0 6))) (k := 6) hx hb hts inW_14 hown hK hZ10 (by decide) (by decide) rfl (by decide) k_11_4 rfl (D_180 W_prog_15_method_153_code_32 16 rfl rfl rfl) ?_
  refine lv_iconst (v := iI 0) hx hb (D_3 W_prog_15_method_153_code_32 19 rfl rfl) rfl ?_
  obtain ⟨g11, hf⟩ := gif hf
  refine W.eq (g2 := F0 m 52 ls [.int (iI 0), .ref (ad 13 (F 14 0 6) 0)]) (by rw [zrf_pos (ad := ad) (t := 13) g11.1]; try rfl) ?_
  refine zput (ci := 13) (C := RX13) (T := TX13) (k := 1) (v := 0) (w := .int (iI 0)) hx hb hts inW_13 tyX13 tyX13_ok nmX13 hown hK hZ10 hS10 g11.1 g11.2 rfl (by decide) k_9_126 rfl (fun G h => congrArg (fun q => Value.int (iI q)) h) rfl rfl (zno (by decide)) (D_181 W_prog_15_method_153_code_32 20 rfl rfl rfl) (fun H12 locs12 hZ12 hS12 => ?_)
  refine lv_aload_n hx hb (D_42 W_prog_15_method_153_code_32 23 rfl rfl) rfl (lv_at hl 0 rfl) ?_
  refine zget (ci := 14) (C := RX14) (T := TX14) (v := va_rf (zrf ad 13 (F 14 0 6))) (k := 6) hx hb hts inW_14 hown hK hZ12 (by decide) (by decide) rfl (by decide) k_11_4 (congrArg (fun q : Int => va_rf (zrf ad 13 q)) (show (zup3 (zup3 F 14 0 71 0) 13 (F 14 0 6) 1 0) 14 0 6 = F 14 0 6 by simp [zup3])) (D_180 W_prog_15_method_153_code_32 24 rfl rfl rfl) ?_
  refine lv_aload_n hx hb (D_42 W_prog_15_method_153_code_32 27 rfl rfl) rfl (lv_at hl 0 rfl) ?_
  refine zget (ci := 14) (C := RX14) (T := TX14) (v := .ref (ad 14 0 (73 + 1))) (k := 73) hx hb hts inW_14 hown hK hZ12 (by decide) (by decide) rfl (by decide) k_11_71 rfl (D_180 W_prog_15_method_153_code_32 28 rfl rfl rfl) ?_
  refine lv_iconst (v := iI 2) hx hb (D_5 W_prog_15_method_153_code_32 31 rfl rfl) rfl ?_
  refine zald (ci := 14) (k := 73) hx hb hK rfl hZ12 (by decide) (by decide) rfl (Nat.le_of_ble_eq_true rfl) (by decide) (by decide) (D_46 W_prog_15_method_153_code_64 0 rfl rfl) ?_
  refine W.eq (g2 := F0 m 65 ls [.int (iI (B 14 0 73 2)), .ref (ad 13 (F 14 0 6) 0)]) (by rw [zrf_pos (ad := ad) (t := 13) g11.1]; try rfl) ?_
  refine zput (ci := 13) (C := RX13) (T := TX13) (k := 2) (v := (B 14 0 73 2)) (w := .int (iI (B 14 0 73 2))) hx hb hts inW_13 tyX13 tyX13_ok nmX13 hown hK hZ12 hS12 g11.1 g11.2 rfl (by decide) k_9_127 rfl (fun G h => congrArg (fun q => Value.int (iI q)) h) rfl rfl (zno (by decide)) (D_181 W_prog_15_method_153_code_64 1 rfl rfl rfl) (fun H13 locs13 hZ13 hS13 => ?_)
  refine lv_aload_n hx hb (D_42 W_prog_15_method_153_code_64 4 rfl rfl) rfl (lv_at hl 0 rfl) ?_
  refine zget (ci := 14) (C := RX14) (T := TX14) (v := va_rf (zrf ad 13 (F 14 0 6))) (k := 6) hx hb hts inW_14 hown hK hZ13 (by decide) (by decide) rfl (by decide) k_11_4 (congrArg (fun q : Int => va_rf (zrf ad 13 q)) (show (zup3 (zup3 (zup3 F 14 0 71 0) 13 (F 14 0 6) 1 0) 13 (F 14 0 6) 2 (B 14 0 73 2)) 14 0 6 = F 14 0 6 by simp [zup3])) (D_180 W_prog_15_method_153_code_64 5 rfl rfl rfl) ?_
  refine lv_aload_n hx hb (D_42 W_prog_15_method_153_code_64 8 rfl rfl) rfl (lv_at hl 0 rfl) ?_
  refine zget (ci := 14) (C := RX14) (T := TX14) (v := .ref (ad 14 0 (73 + 1))) (k := 73) hx hb hts inW_14 hown hK hZ13 (by decide) (by decide) rfl (by decide) k_11_71 rfl (D_180 W_prog_15_method_153_code_64 9 rfl rfl rfl) ?_
  refine lv_iconst (v := iI 3) hx hb (D_6 W_prog_15_method_153_code_64 12 rfl rfl) rfl ?_
  refine zald (ci := 14) (k := 73) hx hb hK rfl hZ13 (by decide) (by decide) rfl (Nat.le_of_ble_eq_true rfl) (by decide) (by decide) (D_46 W_prog_15_method_153_code_64 13 rfl rfl) ?_
  refine lv_iconst (v := iI 1) hx hb (D_4 W_prog_15_method_153_code_64 14 rfl rfl) rfl ?_
  obtain ⟨g14, hf⟩ := gif hf
  refine zne (tgt := 86) hx hb g14 (by decide) (D_160 W_prog_15_method_153_code_64 15 rfl rfl rfl) (by decide) (fun h15 => ?_) (fun h15 => ?_)
  · replace hf := gneg hf h15
    refine lv_iconst (v := iI 0) hx hb (D_3 W_prog_15_method_153_code_64 22 rfl rfl) rfl ?_
    exact b_M_down_87 X hf hZ13 hS13 (lv_sub hl [0, 1] rfl)
  · replace hf := gpos hf h15
    refine lv_iconst (v := iI 1) hx hb (D_4 W_prog_15_method_153_code_64 18 rfl rfl) rfl ?_
    refine lv_goto (tgt := 87) hx hb (D_167 W_prog_15_method_153_code_64 19 rfl rfl rfl) (by decide) ?_
    exact b_M_down_87 X hf hZ13 hS13 (lv_sub hl [0, 1] rfl)

def f_M_down_40 (K : Nat)  (F : zF) (B : zB) : zO := some ((-1), F, B)
set_option maxHeartbeats 4000000 in
set_option maxRecDepth 100000 in
theorem b_M_down_40 {D : va_G} {ca : Nat → ClassId} {ad : Nat → Int → Nat → Nat} {L : List Nat} {aS vS : Nat → Nat} {A : Nat → Prop} {p : Program} {l : Launch} {e : Env} {s : State} {m : MethodId} {args : Array Value} {below : List Frame} {meth : Method} {c : Code} {K : Nat} {r : Int} {F9 : zF} {B9 : zB} (X : zX D ca L aS vS A p s m args meth c prog_15_method_153_code 7 (Option.some Jvm.ClassFile.FieldType.int) "StaveHouseModel")  {F : zF} {B : zB} {H : Heap} {locs : List Loc} {ls : Array Slot} (hf : f_M_down_40 K  F B = some (r, F9, B9)) (hZ : zH D ca ad lnM nM L F B A H) (hS : va_S A s.heap H locs) (hl : lv_has ls 7 []) : W p l e ({ frames := 10, cells := 0, slots := 0, locals := 331 } : Room) s m args below meth c H locs 0 0 (MQ below (Q_M_down D ca ad L r F9 B9 A) args s 0 0 A) (F0 m 40 ls []) := by
  obtain ⟨hx, hb, hr, hml, hown, hts, hlk, hK, hA, hL, hX⟩ := id X
  replace hf : (some ((-1), F, B)) = some (r, F9, B9) := hf
  refine lv_iconst (v := iI (-1)) hx hb (D_2 W_prog_15_method_153_code_32 8 rfl rfl) rfl ?_
  cases hf
  exact W.iret hx hb hr (fun t ht hW => ⟨⟨_, (), rfl, rfl, by rw [ht]; exact hZ, va_K.moved hW.alike hK⟩, hS.F ht⟩) hS.2.2 (D_172 W_prog_15_method_153_code_32 9 rfl rfl) hlk

def f_M_down (K : Nat) (l1 : Int) (F : zF) (B : zB) : zO := if r32 (F 14 0 72) then (if (F 14 0 72) = 0 then f_M_down_40 K F B else if r32 (B 14 0 73 7) then (if (B 14 0 73 7) = 0 then f_M_down_40 K F B else if r32 l1 then (if l1 = 4 then f_M_down_42 K l1 F B else (if l1 = 8 then f_M_down_42 K l1 F B else (if l1 = 16 then f_M_down_42 K l1 F B else (if l1 = 32 then f_M_down_42 K l1 F B else f_M_down_40 K F B)))) else none) else none) else none
set_option maxHeartbeats 4000000 in
set_option maxRecDepth 100000 in
theorem c_M_down {l : Launch} {D : va_G} {ca : Nat → ClassId} {ad : Nat → Int → Nat → Nat} {L : List Nat} {aS vS : Nat → Nat} {sz K : Nat}  {l1 : Int} {F F9 : zF} {B B9 : zB} {r : Int} (hf : f_M_down K l1 F B = some (r, F9, B9)) : Met l ({ cls := "StaveHouseModel", name := "down", desc := "(I)I" } : Jvm.MethodName) (Cond.code ({ cls := "StaveHouseModel", name := "down", desc := "(I)I" } : Jvm.MethodName) prog_15_method_153_code 7 (Option.some Jvm.ClassFile.FieldType.int) :: wAll) ({ frames := 10, cells := 0, slots := 0, locals := 331 } : Room) (va_Pc [.ref (ad 14 0 0), .int (iI l1)] (zPre D ca ad lnM nM L aS vS F B sz)) (Q_M_down D ca ad L r F9 B9 (zA L sz)) 0 0 (zA L sz) := by
  refine zMet (Qc := Q_M_down D ca ad L r F9 B9) (lv := [(0, .ref (ad 14 0 0)), (1, .int (iI l1))]) (by decide) (Nat.le_of_ble_eq_true rfl) rfl (fun A p e s m below meth c ls X hZ hS hl => ?_)
  obtain ⟨hx, hb, hr, hml, hown, hts, hlk, hK, hA, hL, hX⟩ := id X
  replace hf : (if r32 (F 14 0 72) then (if (F 14 0 72) = 0 then f_M_down_40 K F B else if r32 (B 14 0 73 7) then (if (B 14 0 73 7) = 0 then f_M_down_40 K F B else if r32 l1 then (if l1 = 4 then f_M_down_42 K l1 F B else (if l1 = 8 then f_M_down_42 K l1 F B else (if l1 = 16 then f_M_down_42 K l1 F B else (if l1 = 32 then f_M_down_42 K l1 F B else f_M_down_40 K F B)))) else none) else none) else none) = some (r, F9, B9) := hf
  refine lv_aload_n hx hb (D_42 W_prog_15_method_153_code_0 0 rfl rfl) rfl (lv_at hl 0 rfl) ?_
  refine zget (ci := 14) (C := RX14) (T := TX14) (v := .int (iI (F 14 0 72))) (k := 72) hx hb hts inW_14 hown hK hZ (by decide) (by decide) rfl (by decide) k_11_70 rfl (D_180 W_prog_15_method_153_code_0 1 rfl rfl rfl) ?_
  obtain ⟨g1, hf⟩ := gif hf
  refine z0eq (tgt := 40) hx hb g1 (D_153 W_prog_15_method_153_code_0 4 rfl rfl rfl) (by decide) (fun h2 => ?_) (fun h2 => ?_)
  · replace hf := gpos hf h2
    exact b_M_down_40 X hf hZ hS (lv_sub hl [] rfl)
  · replace hf := gneg hf h2
    refine lv_aload_n hx hb (D_42 W_prog_15_method_153_code_0 7 rfl rfl) rfl (lv_at hl 0 rfl) ?_
    refine zget (ci := 14) (C := RX14) (T := TX14) (v := .ref (ad 14 0 (73 + 1))) (k := 73) hx hb hts inW_14 hown hK hZ (by decide) (by decide) rfl (by decide) k_11_71 rfl (D_180 W_prog_15_method_153_code_0 8 rfl rfl rfl) ?_
    refine lv_bipush (v := iI 7) hx hb (D_16 W_prog_15_method_153_code_0 11 rfl rfl rfl) (by decide) ?_
    refine zald (ci := 14) (k := 73) hx hb hK rfl hZ (by decide) (by decide) rfl (Nat.le_of_ble_eq_true rfl) (by decide) (by decide) (D_46 W_prog_15_method_153_code_0 13 rfl rfl) ?_
    obtain ⟨g3, hf⟩ := gif hf
    refine z0eq (tgt := 40) hx hb g3 (D_153 W_prog_15_method_153_code_0 14 rfl rfl rfl) (by decide) (fun h4 => ?_) (fun h4 => ?_)
    · replace hf := gpos hf h4
      exact b_M_down_40 X hf hZ hS (lv_sub hl [] rfl)
    · replace hf := gneg hf h4
      refine lv_iload_n hx hb (D_27 W_prog_15_method_153_code_0 17 rfl rfl) rfl (lv_at hl 1 rfl) ?_
      refine lv_iconst (v := iI 4) hx hb (D_7 W_prog_15_method_153_code_0 18 rfl rfl) rfl ?_
      obtain ⟨g5, hf⟩ := gif hf
      refine zeq (tgt := 42) hx hb g5 (by decide) (D_159 W_prog_15_method_153_code_0 19 rfl rfl rfl) (by decide) (fun h6 => ?_) (fun h6 => ?_)
      · replace hf := gpos hf h6
        exact b_M_down_42 X hf hZ hS (lv_sub hl [0, 1] rfl)
      · replace hf := gneg hf h6
        refine lv_iload_n hx hb (D_27 W_prog_15_method_153_code_0 22 rfl rfl) rfl (lv_at hl 1 rfl) ?_
        refine lv_bipush (v := iI 8) hx hb (D_16 W_prog_15_method_153_code_0 23 rfl rfl rfl) (by decide) ?_
        refine zeq (tgt := 42) hx hb g5 (by decide) (D_159 W_prog_15_method_153_code_0 25 rfl rfl rfl) (by decide) (fun h7 => ?_) (fun h7 => ?_)
        · replace hf := gpos hf h7
          exact b_M_down_42 X hf hZ hS (lv_sub hl [0, 1] rfl)
        · replace hf := gneg hf h7
          refine lv_iload_n hx hb (D_27 W_prog_15_method_153_code_0 28 rfl rfl) rfl (lv_at hl 1 rfl) ?_
          refine lv_bipush (v := iI 16) hx hb (D_16 W_prog_15_method_153_code_0 29 rfl rfl rfl) (by decide) ?_
          refine zeq (tgt := 42) hx hb g5 (by decide) (D_159 W_prog_15_method_153_code_0 31 rfl rfl rfl) (by decide) (fun h8 => ?_) (fun h8 => ?_)
          · replace hf := gpos hf h8
            exact b_M_down_42 X hf hZ hS (lv_sub hl [0, 1] rfl)
          · replace hf := gneg hf h8
            refine lv_iload_n hx hb (D_27 W_prog_15_method_153_code_32 2 rfl rfl) rfl (lv_at hl 1 rfl) ?_
            refine lv_bipush (v := iI 32) hx hb (D_16 W_prog_15_method_153_code_32 3 rfl rfl rfl) (by decide) ?_
            refine zeq (tgt := 42) hx hb g5 (by decide) (D_159 W_prog_15_method_153_code_32 5 rfl rfl rfl) (by decide) (fun h9 => ?_) (fun h9 => ?_)
            · replace hf := gpos hf h9
              exact b_M_down_42 X hf hZ hS (lv_sub hl [0, 1] rfl)
            · replace hf := gneg hf h9
              exact b_M_down_40 X hf hZ hS (lv_sub hl [] rfl)

abbrev Q_M_block (D : va_G) (ca : Nat → ClassId) (ad : Nat → Int → Nat → Nat) (L : List Nat) (r : Int) (F : zF) (B : zB) (A : Nat → Prop) : Array Value → State → Outcome → State → Prop := va_Qv (S := Unit) (fun _ => True) (fun _ => zPo D ca ad lnM nM L F B A) A
abbrev Q_M_item (D : va_G) (ca : Nat → ClassId) (ad : Nat → Int → Nat → Nat) (L : List Nat) (r : Int) (F : zF) (B : zB) (A : Nat → Prop) : Array Value → State → Outcome → State → Prop := va_Qv (S := Unit) (fun _ => True) (fun _ => zPo D ca ad lnM nM L F B A) A
abbrev Q_M_tuplet (D : va_G) (ca : Nat → ClassId) (ad : Nat → Int → Nat → Nat) (L : List Nat) (r : Int) (F : zF) (B : zB) (A : Nat → Prop) : Array Value → State → Outcome → State → Prop := va_Qv (S := Unit) (fun _ => True) (fun _ => zPo D ca ad lnM nM L F B A) A
abbrev Q_M_itemOfWord (D : va_G) (ca : Nat → ClassId) (ad : Nat → Int → Nat → Nat) (L : List Nat) (r : Int) (F : zF) (B : zB) (A : Nat → Prop) : Array Value → State → Outcome → State → Prop := va_Qv (S := Unit) (fun _ => True) (fun _ => zPo D ca ad lnM nM L F B A) A
abbrev oT_P : Type := (zF → zB → zO) × (zF → zB → zO) × (zF → zB → zO) × (zF → zB → zO)
def oH_P (l : Launch) (D : va_G) (ca : Nat → ClassId) (ad : Nat → Int → Nat → Nat) (L : List Nat) (aS vS : Nat → Nat) (d : Nat) (o : oT_P) : Prop := (∀ {sz : Nat}  {F F9 : zF} {B B9 : zB} {r : Int}, o.1  F B = some (r, F9, B9) → Met l ({ cls := "StaveHouseModel", name := "block", desc := "()V" } : Jvm.MethodName) (Cond.code ({ cls := "StaveHouseModel", name := "block", desc := "()V" } : Jvm.MethodName) prog_15_method_45_code 2 (Option.none : Option Jvm.ClassFile.FieldType) :: wAll) ({ frames := d + 6, cells := 0, slots := 0, locals := 23 * d + 110 } : Room) (va_Pc [.ref (ad 14 0 0)] (zPre D ca ad lnM nM L aS vS F B sz)) (Q_M_block D ca ad L r F9 B9 (zA L sz)) 0 0 (zA L sz)) ∧ (∀ {sz : Nat}  {F F9 : zF} {B B9 : zB} {r : Int}, o.2.1  F B = some (r, F9, B9) → Met l ({ cls := "StaveHouseModel", name := "item", desc := "()V" } : Jvm.MethodName) (Cond.code ({ cls := "StaveHouseModel", name := "item", desc := "()V" } : Jvm.MethodName) prog_15_method_46_code 2 (Option.none : Option Jvm.ClassFile.FieldType) :: wAll) ({ frames := d + 6, cells := 0, slots := 0, locals := 23 * d + 110 } : Room) (va_Pc [.ref (ad 14 0 0)] (zPre D ca ad lnM nM L aS vS F B sz)) (Q_M_item D ca ad L r F9 B9 (zA L sz)) 0 0 (zA L sz)) ∧ (∀ {sz : Nat}  {F F9 : zF} {B B9 : zB} {r : Int}, o.2.2.1  F B = some (r, F9, B9) → Met l ({ cls := "StaveHouseModel", name := "tuplet", desc := "()V" } : Jvm.MethodName) (Cond.code ({ cls := "StaveHouseModel", name := "tuplet", desc := "()V" } : Jvm.MethodName) prog_15_method_48_code 2 (Option.none : Option Jvm.ClassFile.FieldType) :: wAll) ({ frames := d + 6, cells := 0, slots := 0, locals := 23 * d + 110 } : Room) (va_Pc [.ref (ad 14 0 0)] (zPre D ca ad lnM nM L aS vS F B sz)) (Q_M_tuplet D ca ad L r F9 B9 (zA L sz)) 0 0 (zA L sz)) ∧ (∀ {sz : Nat}  {F F9 : zF} {B B9 : zB} {r : Int}, o.2.2.2  F B = some (r, F9, B9) → Met l ({ cls := "StaveHouseModel", name := "itemOfWord", desc := "()V" } : Jvm.MethodName) (Cond.code ({ cls := "StaveHouseModel", name := "itemOfWord", desc := "()V" } : Jvm.MethodName) prog_15_method_49_code 4 (Option.none : Option Jvm.ClassFile.FieldType) :: wAll) ({ frames := d + 6, cells := 0, slots := 0, locals := 23 * d + 110 } : Room) (va_Pc [.ref (ad 14 0 0)] (zPre D ca ad lnM nM L aS vS F B sz)) (Q_M_itemOfWord D ca ad L r F9 B9 (zA L sz)) 0 0 (zA L sz))
def f_M_block_34 (o : oT_P) (K : Nat) (l1 : Int) (F : zF) (B : zB) : zO := zbind (f_M_closing K l1 125 F B) (fun r9 F9 B9 => some (0, F9, B9))
set_option maxHeartbeats 4000000 in
set_option maxRecDepth 100000 in
theorem b_M_block_34 {D : va_G} {ca : Nat → ClassId} {ad : Nat → Int → Nat → Nat} {L : List Nat} {aS vS : Nat → Nat} {A : Nat → Prop} {p : Program} {l : Launch} {e : Env} {s : State} {m : MethodId} {args : Array Value} {below : List Frame} {meth : Method} {c : Code} {K : Nat} {r : Int} {F9 : zF} {B9 : zB} {d : Nat} {o : oT_P} (X : zX D ca L aS vS A p s m args meth c prog_15_method_45_code 2 (Option.none : Option Jvm.ClassFile.FieldType) "StaveHouseModel") (ho : oH_P l D ca ad L aS vS d o) {l1 : Int} {F : zF} {B : zB} {H : Heap} {locs : List Loc} {ls : Array Slot} (hf : f_M_block_34 o K l1 F B = some (r, F9, B9)) (hZ : zH D ca ad lnM nM L F B A H) (hS : va_S A s.heap H locs) (hl : lv_has ls 2 [(1, .int (iI l1)), (0, .ref (ad 14 0 0))]) : W p l e ({ frames := d + 1 + 6, cells := 0, slots := 0, locals := 23 * (d + 1) + 110 } : Room) s m args below meth c H locs 0 0 (MQ below (Q_M_block D ca ad L r F9 B9 A) args s 0 0 A) (F0 m 34 ls []) := by
  obtain ⟨hx, hb, hr, hml, hown, hts, hlk, hK, hA, hL, hX⟩ := id X
  replace hf : (zbind (f_M_closing K l1 125 F B) (fun r9 F9 B9 => some (0, F9, B9))) = some (r, F9, B9) := hf
  refine lv_aload_n hx hb (D_42 W_prog_15_method_45_code_32 2 rfl rfl) rfl (lv_at hl 1 rfl) ?_
  refine lv_iload_n hx hb (D_27 W_prog_15_method_45_code_32 3 rfl rfl) rfl (lv_at hl 0 rfl) ?_
  refine lv_bipush (v := iI 125) hx hb (D_16 W_prog_15_method_45_code_32 4 rfl rfl rfl) (by decide) ?_
  obtain ⟨r9, F9, B9, hc9, hf⟩ := gbind hf
  refine va_callv (va_runV (As := [.int (iI l1), .int (iI 125)]) (rest := []) ⟨hx, hb, hml, hown, hts⟩ (c_M_closing (l := l) hc9) (cwV 2 hts (gdV k_14_191 k_14_193 ks_219 k_1_9 k_14_194) rfl rfl rfl (by decide +kernel) ⟨by dsimp only; omega, by dsimp only; omega⟩) (zPV X hZ hS (ci := 14) (by decide) (by decide) (r := (RX14, TX14, 107)) rfl [.int (iI l1), .int (iI 125)]) rfl rfl hl.1 rfl (lv_room (Nat.le_of_ble_eq_true rfl)) (D_182 W_prog_15_method_45_code_32 6 rfl rfl rfl) ⟨Nat.le_of_ble_eq_true rfl, Nat.le_of_ble_eq_true rfl⟩) hS (fun q _ h => zAin X hS q h) (zAin X hS) (fun u9 t9 H9 locs9 ht9 hv9 hw9 hB9 hz9 hk9 hS9 => ?_)
  have hZ9 := zBack X ht9 hB9
  cases hf
  exact W.vret hx hb hr (fun t ht hW => ⟨⟨(), rfl, trivial, by rw [ht]; exact hZ9, va_K.moved hW.alike hK⟩, hS9.F ht⟩) hS9.2.2 (D_177 W_prog_15_method_45_code_32 9 rfl rfl) hlk

def f_M_block_11 (o : oT_P) (K : Nat) : Nat → Int → zF → zB → zO
  | 0, _, _, _ => none
  | n + 1, l1, F, B => zbind (f_M_good K F B) (fun r2 F2 B2 => if r32 r2 then (if r2 = 0 then f_M_block_34 o K l1 F2 B2 else zbind (f_M_isSign K 125 F2 B2) (fun r5 F5 B5 => if r32 r5 then (if r5 = 0 then zbind (o.2.1 F5 B5) (fun r8 F8 B8 => f_M_block_11 o K n l1 F8 B8) else f_M_block_34 o K l1 F5 B5) else none)) else none)
set_option maxHeartbeats 4000000 in
set_option maxRecDepth 100000 in
theorem b_M_block_11 {D : va_G} {ca : Nat → ClassId} {ad : Nat → Int → Nat → Nat} {L : List Nat} {aS vS : Nat → Nat} {A : Nat → Prop} {p : Program} {l : Launch} {e : Env} {s : State} {m : MethodId} {args : Array Value} {below : List Frame} {meth : Method} {c : Code} {K : Nat} {r : Int} {F9 : zF} {B9 : zB} {d : Nat} {o : oT_P} (X : zX D ca L aS vS A p s m args meth c prog_15_method_45_code 2 (Option.none : Option Jvm.ClassFile.FieldType) "StaveHouseModel") (ho : oH_P l D ca ad L aS vS d o) : ∀ {n : Nat} {l1 : Int} {F : zF} {B : zB} {H : Heap} {locs : List Loc} {ls : Array Slot}, f_M_block_11 o K n l1 F B = some (r, F9, B9) → zH D ca ad lnM nM L F B A H → va_S A s.heap H locs → lv_has ls 2 [(1, .int (iI l1)), (0, .ref (ad 14 0 0))] → W p l e ({ frames := d + 1 + 6, cells := 0, slots := 0, locals := 23 * (d + 1) + 110 } : Room) s m args below meth c H locs 0 0 (MQ below (Q_M_block D ca ad L r F9 B9 A) args s 0 0 A) (F0 m 11 ls []) := by
  obtain ⟨hx, hb, hr, hml, hown, hts, hlk, hK, hA, hL, hX⟩ := id X
  intro n
  induction n with
  | zero =>
    intros
    rename_i hf _ _ _
    cases hf
  | succ n ih =>
    intro l1 F B H locs ls hf hZ hS hl
    replace hf : (zbind (f_M_good K F B) (fun r2 F2 B2 => if r32 r2 then (if r2 = 0 then f_M_block_34 o K l1 F2 B2 else zbind (f_M_isSign K 125 F2 B2) (fun r5 F5 B5 => if r32 r5 then (if r5 = 0 then zbind (o.2.1 F5 B5) (fun r8 F8 B8 => f_M_block_11 o K n l1 F8 B8) else f_M_block_34 o K l1 F5 B5) else none)) else none)) = some (r, F9, B9) := hf
    refine lv_aload_n hx hb (D_42 W_prog_15_method_45_code_0 11 rfl rfl) rfl (lv_at hl 1 rfl) ?_
    obtain ⟨r2, F2, B2, hc2, hf⟩ := gbind hf
    refine va_calli (va_runV (As := []) (rest := []) ⟨hx, hb, hml, hown, hts⟩ (c_M_good (l := l) hc2) (cwV 0 hts (gdV k_13_15 k_13_17 ks_152 k_1_9 k_13_18) rfl rfl rfl (by decide +kernel) ⟨by dsimp only; omega, by dsimp only; omega⟩) (zPV X hZ hS (ci := 14) (by decide) (by decide) (r := (RX14, TX14, 107)) rfl []) rfl rfl hl.1 rfl (lv_room (Nat.le_of_ble_eq_true rfl)) (D_182 W_prog_15_method_45_code_0 12 rfl rfl rfl) ⟨Nat.le_of_ble_eq_true rfl, Nat.le_of_ble_eq_true rfl⟩) hS (fun q _ h => zAin X hS q h) (zAin X hS) (fun p2 u2 t2 H2 locs2 ht2 hv2 hw2 hB2 hz2 hk2 hS2 => ?_)
    have hZ2 := zBack X ht2 hB2
    subst hw2
    obtain ⟨g3, hf⟩ := gif hf
    refine z0eq (tgt := 34) hx hb g3 (D_153 W_prog_15_method_45_code_0 15 rfl rfl rfl) (by decide) (fun h4 => ?_) (fun h4 => ?_)
    · replace hf := gpos hf h4
      exact b_M_block_34 X ho hf hZ2 hS2 (lv_sub hl [0, 1] rfl)
    · replace hf := gneg hf h4
      refine lv_aload_n hx hb (D_42 W_prog_15_method_45_code_0 18 rfl rfl) rfl (lv_at hl 1 rfl) ?_
      refine lv_bipush (v := iI 125) hx hb (D_16 W_prog_15_method_45_code_0 19 rfl rfl rfl) (by decide) ?_
      obtain ⟨r5, F5, B5, hc5, hf⟩ := gbind hf
      refine va_calli (va_runV (As := [.int (iI 125)]) (rest := []) ⟨hx, hb, hml, hown, hts⟩ (c_M_isSign (l := l) hc5) (cwV 1 hts (gdV k_14_136 k_14_138 ks_206 k_1_9 k_14_139) rfl rfl rfl (by decide +kernel) ⟨by dsimp only; omega, by dsimp only; omega⟩) (zPV X hZ2 hS2 (ci := 14) (by decide) (by decide) (r := (RX14, TX14, 107)) rfl [.int (iI 125)]) rfl rfl hl.1 rfl (lv_room (Nat.le_of_ble_eq_true rfl)) (D_182 W_prog_15_method_45_code_0 21 rfl rfl rfl) ⟨Nat.le_of_ble_eq_true rfl, Nat.le_of_ble_eq_true rfl⟩) hS2 (fun q _ h => zAin X hS2 q h) (zAin X hS2) (fun p5 u5 t5 H5 locs5 ht5 hv5 hw5 hB5 hz5 hk5 hS5 => ?_)
      have hZ5 := zBack X ht5 hB5
      subst hw5
      obtain ⟨g6, hf⟩ := gif hf
      refine z0ne (tgt := 34) hx hb g6 (D_154 W_prog_15_method_45_code_0 24 rfl rfl rfl) (by decide) (fun h7 => ?_) (fun h7 => ?_)
      · replace hf := gneg hf h7
        exact b_M_block_34 X ho hf hZ5 hS5 (lv_sub hl [0, 1] rfl)
      · replace hf := gpos hf h7
        refine lv_aload_n hx hb (D_42 W_prog_15_method_45_code_0 27 rfl rfl) rfl (lv_at hl 1 rfl) ?_
        obtain ⟨r8, F8, B8, hc8, hf⟩ := gbind hf
        refine va_callv (va_runV (As := []) (rest := []) ⟨hx, hb, hml, hown, hts⟩ (ho.2.1 hc8) (cwV 0 hts (gdV k_14_167 k_14_169 ks_213 k_1_9 k_14_170) rfl rfl rfl (by decide +kernel) ⟨by dsimp only; omega, by dsimp only; omega⟩) (zPV X hZ5 hS5 (ci := 14) (by decide) (by decide) (r := (RX14, TX14, 107)) rfl []) rfl rfl hl.1 rfl (lv_room (Nat.le_of_ble_eq_true rfl)) (D_182 W_prog_15_method_45_code_0 28 rfl rfl rfl) ⟨Nat.le_of_ble_eq_true rfl, Nat.le_of_ble_eq_true rfl⟩) hS5 (fun q _ h => zAin X hS5 q h) (zAin X hS5) (fun u8 t8 H8 locs8 ht8 hv8 hw8 hB8 hz8 hk8 hS8 => ?_)
        have hZ8 := zBack X ht8 hB8
        refine lv_goto (tgt := 11) hx hb (D_167 W_prog_15_method_45_code_0 31 rfl rfl rfl) (by decide) ?_
        exact ih hf hZ8 hS8 (lv_sub hl [0, 1] rfl)

def fb_M_block (o : oT_P) (K : Nat)  (F : zF) (B : zB) : zO := zbind (f_M_opening K 123 F B) (fun r1 F1 B1 => f_M_block_11 o K K (F 14 0 16) F1 B1)
set_option maxHeartbeats 4000000 in
set_option maxRecDepth 100000 in
theorem cb_M_block {l : Launch} {D : va_G} {ca : Nat → ClassId} {ad : Nat → Int → Nat → Nat} {L : List Nat} {aS vS : Nat → Nat} {sz K : Nat} {d : Nat} {o : oT_P} (ho : oH_P l D ca ad L aS vS d o)   {F F9 : zF} {B B9 : zB} {r : Int} (hf : fb_M_block o K  F B = some (r, F9, B9)) : Met l ({ cls := "StaveHouseModel", name := "block", desc := "()V" } : Jvm.MethodName) (Cond.code ({ cls := "StaveHouseModel", name := "block", desc := "()V" } : Jvm.MethodName) prog_15_method_45_code 2 (Option.none : Option Jvm.ClassFile.FieldType) :: wAll) ({ frames := d + 1 + 6, cells := 0, slots := 0, locals := 23 * (d + 1) + 110 } : Room) (va_Pc [.ref (ad 14 0 0)] (zPre D ca ad lnM nM L aS vS F B sz)) (Q_M_block D ca ad L r F9 B9 (zA L sz)) 0 0 (zA L sz) := by
  refine zMet (Qc := Q_M_block D ca ad L r F9 B9) (lv := [(0, .ref (ad 14 0 0))]) (by decide) (Nat.le_of_ble_eq_true rfl) rfl (fun A p e s m below meth c ls X hZ hS hl => ?_)
  obtain ⟨hx, hb, hr, hml, hown, hts, hlk, hK, hA, hL, hX⟩ := id X
  replace hf : (zbind (f_M_opening K 123 F B) (fun r1 F1 B1 => f_M_block_11 o K K (F 14 0 16) F1 B1)) = some (r, F9, B9) := hf
  refine lv_aload_n hx hb (D_42 W_prog_15_method_45_code_0 0 rfl rfl) rfl (lv_at hl 0 rfl) ?_
  refine zget (ci := 14) (C := RX14) (T := TX14) (v := .int (iI (F 14 0 16))) (k := 16) hx hb hts inW_14 hown hK hZ (by decide) (by decide) rfl (by decide) k_11_14 rfl (D_180 W_prog_15_method_45_code_0 1 rfl rfl rfl) ?_
  refine lv_istore_n (lv' := [(1, .int (iI (F 14 0 16))), (0, .ref (ad 14 0 0))]) hx hb (D_60 W_prog_15_method_45_code_0 4 rfl rfl) rfl hl (by decide) rfl (fun ls hl => ?_)
  refine lv_aload_n hx hb (D_42 W_prog_15_method_45_code_0 5 rfl rfl) rfl (lv_at hl 1 rfl) ?_
  refine lv_bipush (v := iI 123) hx hb (D_16 W_prog_15_method_45_code_0 6 rfl rfl rfl) (by decide) ?_
  obtain ⟨r1, F1, B1, hc1, hf⟩ := gbind hf
  refine va_callv (va_runV (As := [.int (iI 123)]) (rest := []) ⟨hx, hb, hml, hown, hts⟩ (c_M_opening (l := l) hc1) (cwV 1 hts (gdV k_14_163 k_14_165 ks_212 k_1_9 k_14_166) rfl rfl rfl (by decide +kernel) ⟨by dsimp only; omega, by dsimp only; omega⟩) (zPV X hZ hS (ci := 14) (by decide) (by decide) (r := (RX14, TX14, 107)) rfl [.int (iI 123)]) rfl rfl hl.1 rfl (lv_room (Nat.le_of_ble_eq_true rfl)) (D_182 W_prog_15_method_45_code_0 8 rfl rfl rfl) ⟨Nat.le_of_ble_eq_true rfl, Nat.le_of_ble_eq_true rfl⟩) hS (fun q _ h => zAin X hS q h) (zAin X hS) (fun u1 t1 H1 locs1 ht1 hv1 hw1 hB1 hz1 hk1 hS1 => ?_)
  have hZ1 := zBack X ht1 hB1
  exact b_M_block_11 X ho hf hZ1 hS1 (lv_sub hl [0, 1] rfl)

def f_M_item_202 (o : oT_P) (K : Nat) (l1 : Int) (F : zF) (B : zB) : zO := if 0 ≤ l1 ∧ l1 < 3001 then some (0, F, (zup4 B 14 0 31 l1 (F 14 0 16))) else none
set_option maxHeartbeats 4000000 in
set_option maxRecDepth 100000 in
theorem b_M_item_202 {D : va_G} {ca : Nat → ClassId} {ad : Nat → Int → Nat → Nat} {L : List Nat} {aS vS : Nat → Nat} {A : Nat → Prop} {p : Program} {l : Launch} {e : Env} {s : State} {m : MethodId} {args : Array Value} {below : List Frame} {meth : Method} {c : Code} {K : Nat} {r : Int} {F9 : zF} {B9 : zB} {d : Nat} {o : oT_P} (X : zX D ca L aS vS A p s m args meth c prog_15_method_46_code 2 (Option.none : Option Jvm.ClassFile.FieldType) "StaveHouseModel") (ho : oH_P l D ca ad L aS vS d o) {l1 : Int} {F : zF} {B : zB} {H : Heap} {locs : List Loc} {ls : Array Slot} (hf : f_M_item_202 o K l1 F B = some (r, F9, B9)) (hZ : zH D ca ad lnM nM L F B A H) (hS : va_S A s.heap H locs) (hl : lv_has ls 2 [(1, .int (iI l1)), (0, .ref (ad 14 0 0))]) : W p l e ({ frames := d + 1 + 6, cells := 0, slots := 0, locals := 23 * (d + 1) + 110 } : Room) s m args below meth c H locs 0 0 (MQ below (Q_M_item D ca ad L r F9 B9 A) args s 0 0 A) (F0 m 202 ls []) := by
  obtain ⟨hx, hb, hr, hml, hown, hts, hlk, hK, hA, hL, hX⟩ := id X
  replace hf : (if 0 ≤ l1 ∧ l1 < 3001 then some (0, F, (zup4 B 14 0 31 l1 (F 14 0 16))) else none) = some (r, F9, B9) := hf
  refine lv_aload_n hx hb (D_42 W_prog_15_method_46_code_192 10 rfl rfl) rfl (lv_at hl 1 rfl) ?_
  refine zget (ci := 14) (C := RX14) (T := TX14) (v := .ref (ad 14 0 (31 + 1))) (k := 31) hx hb hts inW_14 hown hK hZ (by decide) (by decide) rfl (by decide) k_11_29 rfl (D_180 W_prog_15_method_46_code_192 11 rfl rfl rfl) ?_
  refine lv_iload_n hx hb (D_27 W_prog_15_method_46_code_192 14 rfl rfl) rfl (lv_at hl 0 rfl) ?_
  refine lv_aload_n hx hb (D_42 W_prog_15_method_46_code_192 15 rfl rfl) rfl (lv_at hl 1 rfl) ?_
  refine zget (ci := 14) (C := RX14) (T := TX14) (v := .int (iI (F 14 0 16))) (k := 16) hx hb hts inW_14 hown hK hZ (by decide) (by decide) rfl (by decide) k_11_14 rfl (D_180 W_prog_15_method_46_code_192 16 rfl rfl rfl) ?_
  obtain ⟨g38, hf⟩ := gif hf
  refine zast (ci := 14) (k := 31) hx hb hK rfl hZ hS (by decide) (by decide) rfl (Nat.le_of_ble_eq_true rfl) g38.1 g38.2 (D_79 W_prog_15_method_46_code_192 19 rfl rfl) (fun H39 locs39 hZ39 hS39 => ?_)
  cases hf
  exact W.vret hx hb hr (fun t ht hW => ⟨⟨(), rfl, trivial, by rw [ht]; exact hZ39, va_K.moved hW.alike hK⟩, hS39.F ht⟩) hS39.2.2 (D_177 W_prog_15_method_46_code_192 20 rfl rfl) hlk

def f_M_item_142 (o : oT_P) (K : Nat) (l1 : Int) (F : zF) (B : zB) : zO := zbind (f_M_wrong K F B) (fun r40 F40 B40 => f_M_item_202 o K l1 F40 B40)
set_option maxHeartbeats 4000000 in
set_option maxRecDepth 100000 in
theorem b_M_item_142 {D : va_G} {ca : Nat → ClassId} {ad : Nat → Int → Nat → Nat} {L : List Nat} {aS vS : Nat → Nat} {A : Nat → Prop} {p : Program} {l : Launch} {e : Env} {s : State} {m : MethodId} {args : Array Value} {below : List Frame} {meth : Method} {c : Code} {K : Nat} {r : Int} {F9 : zF} {B9 : zB} {d : Nat} {o : oT_P} (X : zX D ca L aS vS A p s m args meth c prog_15_method_46_code 2 (Option.none : Option Jvm.ClassFile.FieldType) "StaveHouseModel") (ho : oH_P l D ca ad L aS vS d o) {l1 : Int} {F : zF} {B : zB} {H : Heap} {locs : List Loc} {ls : Array Slot} (hf : f_M_item_142 o K l1 F B = some (r, F9, B9)) (hZ : zH D ca ad lnM nM L F B A H) (hS : va_S A s.heap H locs) (hl : lv_has ls 2 [(1, .int (iI l1)), (0, .ref (ad 14 0 0))]) : W p l e ({ frames := d + 1 + 6, cells := 0, slots := 0, locals := 23 * (d + 1) + 110 } : Room) s m args below meth c H locs 0 0 (MQ below (Q_M_item D ca ad L r F9 B9 A) args s 0 0 A) (F0 m 142 ls []) := by
  obtain ⟨hx, hb, hr, hml, hown, hts, hlk, hK, hA, hL, hX⟩ := id X
  replace hf : (zbind (f_M_wrong K F B) (fun r40 F40 B40 => f_M_item_202 o K l1 F40 B40)) = some (r, F9, B9) := hf
  refine lv_aload_n hx hb (D_42 W_prog_15_method_46_code_128 14 rfl rfl) rfl (lv_at hl 1 rfl) ?_
  obtain ⟨r40, F40, B40, hc40, hf⟩ := gbind hf
  refine va_callv (va_runV (As := []) (rest := []) ⟨hx, hb, hml, hown, hts⟩ (c_M_wrong (l := l) hc40) (cwV 0 hts (gdV k_14_124 k_14_126 ks_203 k_1_9 k_14_127) rfl rfl rfl (by decide +kernel) ⟨by dsimp only; omega, by dsimp only; omega⟩) (zPV X hZ hS (ci := 14) (by decide) (by decide) (r := (RX14, TX14, 107)) rfl []) rfl rfl hl.1 rfl (lv_room (Nat.le_of_ble_eq_true rfl)) (D_182 W_prog_15_method_46_code_128 15 rfl rfl rfl) ⟨Nat.le_of_ble_eq_true rfl, Nat.le_of_ble_eq_true rfl⟩) hS (fun q _ h => zAin X hS q h) (zAin X hS) (fun u40 t40 H40 locs40 ht40 hv40 hw40 hB40 hz40 hk40 hS40 => ?_)
  have hZ40 := zBack X ht40 hB40
  refine lv_goto (tgt := 202) hx hb (D_167 W_prog_15_method_46_code_128 18 rfl rfl rfl) (by decide) ?_
  exact b_M_item_202 X ho hf hZ40 hS40 (lv_sub hl [0, 1] rfl)

def fb_M_item (o : oT_P) (K : Nat)  (F : zF) (B : zB) : zO := if 0 ≤ (F 14 0 16) ∧ (F 14 0 16) < 3001 then if r32 (B 14 0 7 (F 14 0 16)) then (if (B 14 0 7 (F 14 0 16)) = 2 then zbind (f_M_length K (F 14 0 16) (zup3 F 14 0 16 ((F 14 0 16) + 1)) B) (fun r36 F36 B36 => zbind (f_M_marks K (F 14 0 16) F36 B36) (fun r37 F37 B37 => f_M_item_202 o K (F 14 0 16) F37 B37)) else zbind (f_M_isSign K 60 F B) (fun r4 F4 B4 => if r32 r4 then (if r4 = 0 then zbind (f_M_isSign K 124 F4 B4) (fun r7 F7 B7 => if r32 r7 then (if r7 = 0 then zbind (f_M_isSign K 33 F7 B7) (fun r10 F10 B10 => if r32 r10 then (if r10 = 0 then zbind (f_M_isSign K 91 F10 B10) (fun r13 F13 B13 => if r32 r13 then (if r13 = 0 then if 0 ≤ (F13 14 0 16) ∧ (F13 14 0 16) < 3001 then if r32 (B13 14 0 7 (F13 14 0 16)) then (if (B13 14 0 7 (F13 14 0 16)) = 4 then zbind (o.2.2.2 F13 B13) (fun r20 F20 B20 => f_M_item_202 o K (F 14 0 16) F20 B20) else zbind (f_M_wrong K F13 B13) (fun r19 F19 B19 => f_M_item_202 o K (F 14 0 16) F19 B19)) else none else none else zbind (o.2.2.1 F13 B13) (fun r21 F21 B21 => f_M_item_202 o K (F 14 0 16) F21 B21)) else none) else if 0 ≤ ((F10 14 0 16) + 1) ∧ ((F10 14 0 16) + 1) < 3001 then if r32 (B10 14 0 7 ((F10 14 0 16) + 1)) then (if (B10 14 0 7 ((F10 14 0 16) + 1)) = 4 then zbind (f_M_find K 14 0 14 8 (B10 14 0 11 ((F10 14 0 16) + 1)) (zup3 F10 14 0 16 ((F10 14 0 16) + 1)) B10) (fun r26 F26 B26 => if r32 r26 then (if 0 ≤ r26 then f_M_item_202 o K (F 14 0 16) (zup3 F26 14 0 16 ((F26 14 0 16) + 1)) B26 else f_M_item_142 o K (F 14 0 16) F26 B26) else none) else f_M_item_142 o K (F 14 0 16) (zup3 F10 14 0 16 ((F10 14 0 16) + 1)) B10) else none else none) else none) else f_M_item_202 o K (F 14 0 16) (zup3 F7 14 0 16 ((F7 14 0 16) + 1)) B7) else none) else zbind (f_M_chord K F4 B4) (fun r31 F31 B31 => zbind (f_M_length K (F 14 0 16) F31 B31) (fun r33 F33 B33 => zbind (f_M_marks K (F 14 0 16) F33 B33) (fun r34 F34 B34 => f_M_item_202 o K (F 14 0 16) F34 B34)))) else none)) else none else none
set_option maxHeartbeats 4000000 in
set_option maxRecDepth 100000 in
theorem cb_M_item {l : Launch} {D : va_G} {ca : Nat → ClassId} {ad : Nat → Int → Nat → Nat} {L : List Nat} {aS vS : Nat → Nat} {sz K : Nat} {d : Nat} {o : oT_P} (ho : oH_P l D ca ad L aS vS d o)   {F F9 : zF} {B B9 : zB} {r : Int} (hf : fb_M_item o K  F B = some (r, F9, B9)) : Met l ({ cls := "StaveHouseModel", name := "item", desc := "()V" } : Jvm.MethodName) (Cond.code ({ cls := "StaveHouseModel", name := "item", desc := "()V" } : Jvm.MethodName) prog_15_method_46_code 2 (Option.none : Option Jvm.ClassFile.FieldType) :: wAll) ({ frames := d + 1 + 6, cells := 0, slots := 0, locals := 23 * (d + 1) + 110 } : Room) (va_Pc [.ref (ad 14 0 0)] (zPre D ca ad lnM nM L aS vS F B sz)) (Q_M_item D ca ad L r F9 B9 (zA L sz)) 0 0 (zA L sz) := by
  refine zMet (Qc := Q_M_item D ca ad L r F9 B9) (lv := [(0, .ref (ad 14 0 0))]) (by decide) (Nat.le_of_ble_eq_true rfl) rfl (fun A p e s m below meth c ls X hZ hS hl => ?_)
  obtain ⟨hx, hb, hr, hml, hown, hts, hlk, hK, hA, hL, hX⟩ := id X
  replace hf : (if 0 ≤ (F 14 0 16) ∧ (F 14 0 16) < 3001 then if r32 (B 14 0 7 (F 14 0 16)) then (if (B 14 0 7 (F 14 0 16)) = 2 then zbind (f_M_length K (F 14 0 16) (zup3 F 14 0 16 ((F 14 0 16) + 1)) B) (fun r36 F36 B36 => zbind (f_M_marks K (F 14 0 16) F36 B36) (fun r37 F37 B37 => f_M_item_202 o K (F 14 0 16) F37 B37)) else zbind (f_M_isSign K 60 F B) (fun r4 F4 B4 => if r32 r4 then (if r4 = 0 then zbind (f_M_isSign K 124 F4 B4) (fun r7 F7 B7 => if r32 r7 then (if r7 = 0 then zbind (f_M_isSign K 33 F7 B7) (fun r10 F10 B10 => if r32 r10 then (if r10 = 0 then zbind (f_M_isSign K 91 F10 B10) (fun r13 F13 B13 => if r32 r13 then (if r13 = 0 then if 0 ≤ (F13 14 0 16) ∧ (F13 14 0 16) < 3001 then if r32 (B13 14 0 7 (F13 14 0 16)) then (if (B13 14 0 7 (F13 14 0 16)) = 4 then zbind (o.2.2.2 F13 B13) (fun r20 F20 B20 => f_M_item_202 o K (F 14 0 16) F20 B20) else zbind (f_M_wrong K F13 B13) (fun r19 F19 B19 => f_M_item_202 o K (F 14 0 16) F19 B19)) else none else none else zbind (o.2.2.1 F13 B13) (fun r21 F21 B21 => f_M_item_202 o K (F 14 0 16) F21 B21)) else none) else if 0 ≤ ((F10 14 0 16) + 1) ∧ ((F10 14 0 16) + 1) < 3001 then if r32 (B10 14 0 7 ((F10 14 0 16) + 1)) then (if (B10 14 0 7 ((F10 14 0 16) + 1)) = 4 then zbind (f_M_find K 14 0 14 8 (B10 14 0 11 ((F10 14 0 16) + 1)) (zup3 F10 14 0 16 ((F10 14 0 16) + 1)) B10) (fun r26 F26 B26 => if r32 r26 then (if 0 ≤ r26 then f_M_item_202 o K (F 14 0 16) (zup3 F26 14 0 16 ((F26 14 0 16) + 1)) B26 else f_M_item_142 o K (F 14 0 16) F26 B26) else none) else f_M_item_142 o K (F 14 0 16) (zup3 F10 14 0 16 ((F10 14 0 16) + 1)) B10) else none else none) else none) else f_M_item_202 o K (F 14 0 16) (zup3 F7 14 0 16 ((F7 14 0 16) + 1)) B7) else none) else zbind (f_M_chord K F4 B4) (fun r31 F31 B31 => zbind (f_M_length K (F 14 0 16) F31 B31) (fun r33 F33 B33 => zbind (f_M_marks K (F 14 0 16) F33 B33) (fun r34 F34 B34 => f_M_item_202 o K (F 14 0 16) F34 B34)))) else none)) else none else none) = some (r, F9, B9) := hf
  refine lv_aload_n hx hb (D_42 W_prog_15_method_46_code_0 0 rfl rfl) rfl (lv_at hl 0 rfl) ?_
  refine zget (ci := 14) (C := RX14) (T := TX14) (v := .int (iI (F 14 0 16))) (k := 16) hx hb hts inW_14 hown hK hZ (by decide) (by decide) rfl (by decide) k_11_14 rfl (D_180 W_prog_15_method_46_code_0 1 rfl rfl rfl) ?_
  refine lv_istore_n (lv' := [(1, .int (iI (F 14 0 16))), (0, .ref (ad 14 0 0))]) hx hb (D_60 W_prog_15_method_46_code_0 4 rfl rfl) rfl hl (by decide) rfl (fun ls hl => ?_)
  refine lv_aload_n hx hb (D_42 W_prog_15_method_46_code_0 5 rfl rfl) rfl (lv_at hl 1 rfl) ?_
  refine zget (ci := 14) (C := RX14) (T := TX14) (v := .ref (ad 14 0 (7 + 1))) (k := 7) hx hb hts inW_14 hown hK hZ (by decide) (by decide) rfl (by decide) k_11_5 rfl (D_180 W_prog_15_method_46_code_0 6 rfl rfl rfl) ?_
  refine lv_aload_n hx hb (D_42 W_prog_15_method_46_code_0 9 rfl rfl) rfl (lv_at hl 1 rfl) ?_
  refine zget (ci := 14) (C := RX14) (T := TX14) (v := .int (iI (F 14 0 16))) (k := 16) hx hb hts inW_14 hown hK hZ (by decide) (by decide) rfl (by decide) k_11_14 rfl (D_180 W_prog_15_method_46_code_0 10 rfl rfl rfl) ?_
  obtain ⟨g1, hf⟩ := gif hf
  refine zald (ci := 14) (k := 7) hx hb hK rfl hZ (by decide) (by decide) rfl (Nat.le_of_ble_eq_true rfl) g1.1 g1.2 (D_46 W_prog_15_method_46_code_0 13 rfl rfl) ?_
  refine lv_iconst (v := iI 2) hx hb (D_5 W_prog_15_method_46_code_0 14 rfl rfl) rfl ?_
  obtain ⟨g2, hf⟩ := gif hf
  refine zne (tgt := 41) hx hb g2 (by decide) (D_160 W_prog_15_method_46_code_0 15 rfl rfl rfl) (by decide) (fun h3 => ?_) (fun h3 => ?_)
  · replace hf := gneg hf h3
    refine lv_aload_n hx hb (D_42 W_prog_15_method_46_code_32 9 rfl rfl) rfl (lv_at hl 1 rfl) ?_
    refine lv_bipush (v := iI 60) hx hb (D_16 W_prog_15_method_46_code_32 10 rfl rfl rfl) (by decide) ?_
    obtain ⟨r4, F4, B4, hc4, hf⟩ := gbind hf
    refine va_calli (va_runV (As := [.int (iI 60)]) (rest := []) ⟨hx, hb, hml, hown, hts⟩ (c_M_isSign (l := l) hc4) (cwV 1 hts (gdV k_14_136 k_14_138 ks_206 k_1_9 k_14_139) rfl rfl rfl (by decide +kernel) ⟨by dsimp only; omega, by dsimp only; omega⟩) (zPV X hZ hS (ci := 14) (by decide) (by decide) (r := (RX14, TX14, 107)) rfl [.int (iI 60)]) rfl rfl hl.1 rfl (lv_room (Nat.le_of_ble_eq_true rfl)) (D_182 W_prog_15_method_46_code_32 12 rfl rfl rfl) ⟨Nat.le_of_ble_eq_true rfl, Nat.le_of_ble_eq_true rfl⟩) hS (fun q _ h => zAin X hS q h) (zAin X hS) (fun p4 u4 t4 H4 locs4 ht4 hv4 hw4 hB4 hz4 hk4 hS4 => ?_)
    have hZ4 := zBack X ht4 hB4
    subst hw4
    obtain ⟨g5, hf⟩ := gif hf
    refine z0eq (tgt := 67) hx hb g5 (D_153 W_prog_15_method_46_code_32 15 rfl rfl rfl) (by decide) (fun h6 => ?_) (fun h6 => ?_)
    · replace hf := gpos hf h6
      refine lv_aload_n hx hb (D_42 W_prog_15_method_46_code_64 3 rfl rfl) rfl (lv_at hl 1 rfl) ?_
      refine lv_bipush (v := iI 124) hx hb (D_16 W_prog_15_method_46_code_64 4 rfl rfl rfl) (by decide) ?_
      obtain ⟨r7, F7, B7, hc7, hf⟩ := gbind hf
      refine va_calli (va_runV (As := [.int (iI 124)]) (rest := []) ⟨hx, hb, hml, hown, hts⟩ (c_M_isSign (l := l) hc7) (cwV 1 hts (gdV k_14_136 k_14_138 ks_206 k_1_9 k_14_139) rfl rfl rfl (by decide +kernel) ⟨by dsimp only; omega, by dsimp only; omega⟩) (zPV X hZ4 hS4 (ci := 14) (by decide) (by decide) (r := (RX14, TX14, 107)) rfl [.int (iI 124)]) rfl rfl hl.1 rfl (lv_room (Nat.le_of_ble_eq_true rfl)) (D_182 W_prog_15_method_46_code_64 6 rfl rfl rfl) ⟨Nat.le_of_ble_eq_true rfl, Nat.le_of_ble_eq_true rfl⟩) hS4 (fun q _ h => zAin X hS4 q h) (zAin X hS4) (fun p7 u7 t7 H7 locs7 ht7 hv7 hw7 hB7 hz7 hk7 hS7 => ?_)
      have hZ7 := zBack X ht7 hB7
      subst hw7
      obtain ⟨g8, hf⟩ := gif hf
      refine z0eq (tgt := 89) hx hb g8 (D_153 W_prog_15_method_46_code_64 9 rfl rfl rfl) (by decide) (fun h9 => ?_) (fun h9 => ?_)
      · replace hf := gpos hf h9
        refine lv_aload_n hx hb (D_42 W_prog_15_method_46_code_64 25 rfl rfl) rfl (lv_at hl 1 rfl) ?_
        refine lv_bipush (v := iI 33) hx hb (D_16 W_prog_15_method_46_code_64 26 rfl rfl rfl) (by decide) ?_
        obtain ⟨r10, F10, B10, hc10, hf⟩ := gbind hf
        refine va_calli (va_runV (As := [.int (iI 33)]) (rest := []) ⟨hx, hb, hml, hown, hts⟩ (c_M_isSign (l := l) hc10) (cwV 1 hts (gdV k_14_136 k_14_138 ks_206 k_1_9 k_14_139) rfl rfl rfl (by decide +kernel) ⟨by dsimp only; omega, by dsimp only; omega⟩) (zPV X hZ7 hS7 (ci := 14) (by decide) (by decide) (r := (RX14, TX14, 107)) rfl [.int (iI 33)]) rfl rfl hl.1 rfl (lv_room (Nat.le_of_ble_eq_true rfl)) (D_182 W_prog_15_method_46_code_64 28 rfl rfl rfl) ⟨Nat.le_of_ble_eq_true rfl, Nat.le_of_ble_eq_true rfl⟩) hS7 (fun q _ h => zAin X hS7 q h) (zAin X hS7) (fun p10 u10 t10 H10 locs10 ht10 hv10 hw10 hB10 hz10 hk10 hS10 => ?_)
        have hZ10 := zBack X ht10 hB10
        subst hw10
        obtain ⟨g11, hf⟩ := gif hf
        refine z0eq (tgt := 162) hx hb g11 (D_153 W_prog_15_method_46_code_64 31 rfl rfl rfl) (by decide) (fun h12 => ?_) (fun h12 => ?_)
        · replace hf := gpos hf h12
          refine lv_aload_n hx hb (D_42 W_prog_15_method_46_code_160 2 rfl rfl) rfl (lv_at hl 1 rfl) ?_
          refine lv_bipush (v := iI 91) hx hb (D_16 W_prog_15_method_46_code_160 3 rfl rfl rfl) (by decide) ?_
          obtain ⟨r13, F13, B13, hc13, hf⟩ := gbind hf
          refine va_calli (va_runV (As := [.int (iI 91)]) (rest := []) ⟨hx, hb, hml, hown, hts⟩ (c_M_isSign (l := l) hc13) (cwV 1 hts (gdV k_14_136 k_14_138 ks_206 k_1_9 k_14_139) rfl rfl rfl (by decide +kernel) ⟨by dsimp only; omega, by dsimp only; omega⟩) (zPV X hZ10 hS10 (ci := 14) (by decide) (by decide) (r := (RX14, TX14, 107)) rfl [.int (iI 91)]) rfl rfl hl.1 rfl (lv_room (Nat.le_of_ble_eq_true rfl)) (D_182 W_prog_15_method_46_code_160 5 rfl rfl rfl) ⟨Nat.le_of_ble_eq_true rfl, Nat.le_of_ble_eq_true rfl⟩) hS10 (fun q _ h => zAin X hS10 q h) (zAin X hS10) (fun p13 u13 t13 H13 locs13 ht13 hv13 hw13 hB13 hz13 hk13 hS13 => ?_)
          have hZ13 := zBack X ht13 hB13
          subst hw13
          obtain ⟨g14, hf⟩ := gif hf
          refine z0eq (tgt := 178) hx hb g14 (D_153 W_prog_15_method_46_code_160 8 rfl rfl rfl) (by decide) (fun h15 => ?_) (fun h15 => ?_)
          · replace hf := gpos hf h15
            refine lv_aload_n hx hb (D_42 W_prog_15_method_46_code_160 18 rfl rfl) rfl (lv_at hl 1 rfl) ?_
            refine zget (ci := 14) (C := RX14) (T := TX14) (v := .ref (ad 14 0 (7 + 1))) (k := 7) hx hb hts inW_14 hown hK hZ13 (by decide) (by decide) rfl (by decide) k_11_5 rfl (D_180 W_prog_15_method_46_code_160 19 rfl rfl rfl) ?_
            refine lv_aload_n hx hb (D_42 W_prog_15_method_46_code_160 22 rfl rfl) rfl (lv_at hl 1 rfl) ?_
            refine zget (ci := 14) (C := RX14) (T := TX14) (v := .int (iI (F13 14 0 16))) (k := 16) hx hb hts inW_14 hown hK hZ13 (by decide) (by decide) rfl (by decide) k_11_14 rfl (D_180 W_prog_15_method_46_code_160 23 rfl rfl rfl) ?_
            obtain ⟨g16, hf⟩ := gif hf
            refine zald (ci := 14) (k := 7) hx hb hK rfl hZ13 (by decide) (by decide) rfl (Nat.le_of_ble_eq_true rfl) g16.1 g16.2 (D_46 W_prog_15_method_46_code_160 26 rfl rfl) ?_
            refine lv_iconst (v := iI 4) hx hb (D_7 W_prog_15_method_46_code_160 27 rfl rfl) rfl ?_
            obtain ⟨g17, hf⟩ := gif hf
            refine zne (tgt := 198) hx hb g17 (by decide) (D_160 W_prog_15_method_46_code_160 28 rfl rfl rfl) (by decide) (fun h18 => ?_) (fun h18 => ?_)
            · replace hf := gneg hf h18
              refine lv_aload_n hx hb (D_42 W_prog_15_method_46_code_192 6 rfl rfl) rfl (lv_at hl 1 rfl) ?_
              obtain ⟨r19, F19, B19, hc19, hf⟩ := gbind hf
              refine va_callv (va_runV (As := []) (rest := []) ⟨hx, hb, hml, hown, hts⟩ (c_M_wrong (l := l) hc19) (cwV 0 hts (gdV k_14_124 k_14_126 ks_203 k_1_9 k_14_127) rfl rfl rfl (by decide +kernel) ⟨by dsimp only; omega, by dsimp only; omega⟩) (zPV X hZ13 hS13 (ci := 14) (by decide) (by decide) (r := (RX14, TX14, 107)) rfl []) rfl rfl hl.1 rfl (lv_room (Nat.le_of_ble_eq_true rfl)) (D_182 W_prog_15_method_46_code_192 7 rfl rfl rfl) ⟨Nat.le_of_ble_eq_true rfl, Nat.le_of_ble_eq_true rfl⟩) hS13 (fun q _ h => zAin X hS13 q h) (zAin X hS13) (fun u19 t19 H19 locs19 ht19 hv19 hw19 hB19 hz19 hk19 hS19 => ?_)
              have hZ19 := zBack X ht19 hB19
              exact b_M_item_202 X ho hf hZ19 hS19 (lv_sub hl [0, 1] rfl)
            · replace hf := gpos hf h18
              refine lv_aload_n hx hb (D_42 W_prog_15_method_46_code_160 31 rfl rfl) rfl (lv_at hl 1 rfl) ?_
              obtain ⟨r20, F20, B20, hc20, hf⟩ := gbind hf
              refine va_callv (va_runV (As := []) (rest := []) ⟨hx, hb, hml, hown, hts⟩ (ho.2.2.2 hc20) (cwV 0 hts (gdV k_14_195 k_14_197 ks_220 k_1_9 k_14_198) rfl rfl rfl (by decide +kernel) ⟨by dsimp only; omega, by dsimp only; omega⟩) (zPV X hZ13 hS13 (ci := 14) (by decide) (by decide) (r := (RX14, TX14, 107)) rfl []) rfl rfl hl.1 rfl (lv_room (Nat.le_of_ble_eq_true rfl)) (D_182 W_prog_15_method_46_code_192 0 rfl rfl rfl) ⟨Nat.le_of_ble_eq_true rfl, Nat.le_of_ble_eq_true rfl⟩) hS13 (fun q _ h => zAin X hS13 q h) (zAin X hS13) (fun u20 t20 H20 locs20 ht20 hv20 hw20 hB20 hz20 hk20 hS20 => ?_)
              have hZ20 := zBack X ht20 hB20
              refine lv_goto (tgt := 202) hx hb (D_167 W_prog_15_method_46_code_192 3 rfl rfl rfl) (by decide) ?_
              exact b_M_item_202 X ho hf hZ20 hS20 (lv_sub hl [0, 1] rfl)
          · replace hf := gneg hf h15
            refine lv_aload_n hx hb (D_42 W_prog_15_method_46_code_160 11 rfl rfl) rfl (lv_at hl 1 rfl) ?_
            obtain ⟨r21, F21, B21, hc21, hf⟩ := gbind hf
            refine va_callv (va_runV (As := []) (rest := []) ⟨hx, hb, hml, hown, hts⟩ (ho.2.2.1 hc21) (cwV 0 hts (gdV k_14_187 k_14_189 ks_218 k_1_9 k_14_190) rfl rfl rfl (by decide +kernel) ⟨by dsimp only; omega, by dsimp only; omega⟩) (zPV X hZ13 hS13 (ci := 14) (by decide) (by decide) (r := (RX14, TX14, 107)) rfl []) rfl rfl hl.1 rfl (lv_room (Nat.le_of_ble_eq_true rfl)) (D_182 W_prog_15_method_46_code_160 12 rfl rfl rfl) ⟨Nat.le_of_ble_eq_true rfl, Nat.le_of_ble_eq_true rfl⟩) hS13 (fun q _ h => zAin X hS13 q h) (zAin X hS13) (fun u21 t21 H21 locs21 ht21 hv21 hw21 hB21 hz21 hk21 hS21 => ?_)
            have hZ21 := zBack X ht21 hB21
            refine lv_goto (tgt := 202) hx hb (D_167 W_prog_15_method_46_code_160 15 rfl rfl rfl) (by decide) ?_
            exact b_M_item_202 X ho hf hZ21 hS21 (lv_sub hl [0, 1] rfl)
        · replace hf := gneg hf h12
          refine lv_aload_n hx hb (D_42 W_prog_15_method_46_code_96 2 rfl rfl) rfl (lv_at hl 1 rfl) ?_
          refine lv_dup hx hb (D_89 W_prog_15_method_46_code_96 3 rfl rfl) rfl ?_
          refine zget (ci := 14) (C := RX14) (T := TX14) (v := .int (iI (F10 14 0 16))) (k := 16) hx hb hts inW_14 hown hK hZ10 (by decide) (by decide) rfl (by decide) k_11_14 rfl (D_180 W_prog_15_method_46_code_96 4 rfl rfl rfl) ?_
          refine lv_iconst (v := iI 1) hx hb (D_4 W_prog_15_method_46_code_96 7 rfl rfl) rfl ?_
          refine zadd hx hb (D_96 W_prog_15_method_46_code_96 8 rfl rfl) ?_
          refine zput (ci := 14) (C := RX14) (T := TX14) (k := 16) (v := ((F10 14 0 16) + 1)) (w := .int (iI ((F10 14 0 16) + 1))) hx hb hts inW_14 tyX14 tyX14_ok nmX14 hown hK hZ10 hS10 (by decide) (by decide) rfl (by decide) k_11_14 rfl (fun G h => congrArg (fun q => Value.int (iI q)) h) rfl rfl (zno (by decide)) (D_181 W_prog_15_method_46_code_96 9 rfl rfl rfl) (fun H22 locs22 hZ22 hS22 => ?_)
          refine lv_aload_n hx hb (D_42 W_prog_15_method_46_code_96 12 rfl rfl) rfl (lv_at hl 1 rfl) ?_
          refine zget (ci := 14) (C := RX14) (T := TX14) (v := .ref (ad 14 0 (7 + 1))) (k := 7) hx hb hts inW_14 hown hK hZ22 (by decide) (by decide) rfl (by decide) k_11_5 rfl (D_180 W_prog_15_method_46_code_96 13 rfl rfl rfl) ?_
          refine lv_aload_n hx hb (D_42 W_prog_15_method_46_code_96 16 rfl rfl) rfl (lv_at hl 1 rfl) ?_
          refine zget (ci := 14) (C := RX14) (T := TX14) (v := .int (iI ((F10 14 0 16) + 1))) (k := 16) hx hb hts inW_14 hown hK hZ22 (by decide) (by decide) rfl (by decide) k_11_14 rfl (D_180 W_prog_15_method_46_code_96 17 rfl rfl rfl) ?_
          obtain ⟨g23, hf⟩ := gif hf
          refine zald (ci := 14) (k := 7) hx hb hK rfl hZ22 (by decide) (by decide) rfl (Nat.le_of_ble_eq_true rfl) g23.1 g23.2 (D_46 W_prog_15_method_46_code_96 20 rfl rfl) ?_
          refine lv_iconst (v := iI 4) hx hb (D_7 W_prog_15_method_46_code_96 21 rfl rfl) rfl ?_
          obtain ⟨g24, hf⟩ := gif hf
          refine zne (tgt := 142) hx hb g24 (by decide) (D_160 W_prog_15_method_46_code_96 22 rfl rfl rfl) (by decide) (fun h25 => ?_) (fun h25 => ?_)
          · replace hf := gneg hf h25
            exact b_M_item_142 X ho hf hZ22 hS22 (lv_sub hl [0, 1] rfl)
          · replace hf := gpos hf h25
            refine lv_aload_n hx hb (D_42 W_prog_15_method_46_code_96 25 rfl rfl) rfl (lv_at hl 1 rfl) ?_
            refine zget (ci := 14) (C := RX14) (T := TX14) (v := .ref (ad 14 0 (14 + 1))) (k := 14) hx hb hts inW_14 hown hK hZ22 (by decide) (by decide) rfl (by decide) k_11_12 rfl (D_180 W_prog_15_method_46_code_96 26 rfl rfl rfl) ?_
            refine lv_bipush (v := iI 8) hx hb (D_16 W_prog_15_method_46_code_96 29 rfl rfl rfl) (by decide) ?_
            refine lv_aload_n hx hb (D_42 W_prog_15_method_46_code_96 31 rfl rfl) rfl (lv_at hl 1 rfl) ?_
            refine zget (ci := 14) (C := RX14) (T := TX14) (v := .ref (ad 14 0 (11 + 1))) (k := 11) hx hb hts inW_14 hown hK hZ22 (by decide) (by decide) rfl (by decide) k_11_9 rfl (D_180 W_prog_15_method_46_code_128 0 rfl rfl rfl) ?_
            refine lv_aload_n hx hb (D_42 W_prog_15_method_46_code_128 3 rfl rfl) rfl (lv_at hl 1 rfl) ?_
            refine zget (ci := 14) (C := RX14) (T := TX14) (v := .int (iI ((F10 14 0 16) + 1))) (k := 16) hx hb hts inW_14 hown hK hZ22 (by decide) (by decide) rfl (by decide) k_11_14 rfl (D_180 W_prog_15_method_46_code_128 4 rfl rfl rfl) ?_
            refine zlald (ci := 14) (k := 11) hx hb hK rfl hZ22 (by decide) (by decide) rfl (Nat.le_of_ble_eq_true rfl) g23.1 g23.2 (D_47 W_prog_15_method_46_code_128 7 rfl rfl) ?_
            obtain ⟨r26, F26, B26, hc26, hf⟩ := gbind hf
            refine va_calli (va_runS (As := [.ref (ad 14 0 (14 + 1)), .int (iI 8), .long (lI (B10 14 0 11 ((F10 14 0 16) + 1)))]) (rest := []) ⟨hx, hb, hml, hown, hts⟩ (c_M_find (l := l) hc26) (va_cwS 3 hts (gdS k_14_156 k_14_157 k_1_9 k_14_158) rfl rfl rfl (by decide +kernel) ⟨by dsimp only; omega, by dsimp only; omega⟩) (zPS X hZ22 hS22 [.ref (ad 14 0 (14 + 1)), .int (iI 8), .long (lI (B10 14 0 11 ((F10 14 0 16) + 1)))]) rfl rfl hl.1 rfl (lv_room (Nat.le_of_ble_eq_true rfl)) (D_184 W_prog_15_method_46_code_128 8 rfl rfl rfl) ⟨Nat.le_of_ble_eq_true rfl, Nat.le_of_ble_eq_true rfl⟩) hS22 (fun q _ h => zAin X hS22 q h) (zAin X hS22) (fun p26 u26 t26 H26 locs26 ht26 hv26 hw26 hB26 hz26 hk26 hS26 => ?_)
            have hZ26 := zBack X ht26 hB26
            subst hw26
            obtain ⟨g27, hf⟩ := gif hf
            refine z0ge (tgt := 149) hx hb g27 (D_156 W_prog_15_method_46_code_128 11 rfl rfl rfl) (by decide) (fun h28 => ?_) (fun h28 => ?_)
            · replace hf := gpos hf h28
              refine lv_aload_n hx hb (D_42 W_prog_15_method_46_code_128 21 rfl rfl) rfl (lv_at hl 1 rfl) ?_
              refine lv_dup hx hb (D_89 W_prog_15_method_46_code_128 22 rfl rfl) rfl ?_
              refine zget (ci := 14) (C := RX14) (T := TX14) (v := .int (iI (F26 14 0 16))) (k := 16) hx hb hts inW_14 hown hK hZ26 (by decide) (by decide) rfl (by decide) k_11_14 rfl (D_180 W_prog_15_method_46_code_128 23 rfl rfl rfl) ?_
              refine lv_iconst (v := iI 1) hx hb (D_4 W_prog_15_method_46_code_128 26 rfl rfl) rfl ?_
              refine zadd hx hb (D_96 W_prog_15_method_46_code_128 27 rfl rfl) ?_
              refine zput (ci := 14) (C := RX14) (T := TX14) (k := 16) (v := ((F26 14 0 16) + 1)) (w := .int (iI ((F26 14 0 16) + 1))) hx hb hts inW_14 tyX14 tyX14_ok nmX14 hown hK hZ26 hS26 (by decide) (by decide) rfl (by decide) k_11_14 rfl (fun G h => congrArg (fun q => Value.int (iI q)) h) rfl rfl (zno (by decide)) (D_181 W_prog_15_method_46_code_128 28 rfl rfl rfl) (fun H29 locs29 hZ29 hS29 => ?_)
              refine lv_goto (tgt := 202) hx hb (D_167 W_prog_15_method_46_code_128 31 rfl rfl rfl) (by decide) ?_
              exact b_M_item_202 X ho hf hZ29 hS29 (lv_sub hl [0, 1] rfl)
            · replace hf := gneg hf h28
              exact b_M_item_142 X ho hf hZ26 hS26 (lv_sub hl [0, 1] rfl)
      · replace hf := gneg hf h9
        refine lv_aload_n hx hb (D_42 W_prog_15_method_46_code_64 12 rfl rfl) rfl (lv_at hl 1 rfl) ?_
        refine lv_dup hx hb (D_89 W_prog_15_method_46_code_64 13 rfl rfl) rfl ?_
        refine zget (ci := 14) (C := RX14) (T := TX14) (v := .int (iI (F7 14 0 16))) (k := 16) hx hb hts inW_14 hown hK hZ7 (by decide) (by decide) rfl (by decide) k_11_14 rfl (D_180 W_prog_15_method_46_code_64 14 rfl rfl rfl) ?_
        refine lv_iconst (v := iI 1) hx hb (D_4 W_prog_15_method_46_code_64 17 rfl rfl) rfl ?_
        refine zadd hx hb (D_96 W_prog_15_method_46_code_64 18 rfl rfl) ?_
        refine zput (ci := 14) (C := RX14) (T := TX14) (k := 16) (v := ((F7 14 0 16) + 1)) (w := .int (iI ((F7 14 0 16) + 1))) hx hb hts inW_14 tyX14 tyX14_ok nmX14 hown hK hZ7 hS7 (by decide) (by decide) rfl (by decide) k_11_14 rfl (fun G h => congrArg (fun q => Value.int (iI q)) h) rfl rfl (zno (by decide)) (D_181 W_prog_15_method_46_code_64 19 rfl rfl rfl) (fun H30 locs30 hZ30 hS30 => ?_)
        refine lv_goto (tgt := 202) hx hb (D_167 W_prog_15_method_46_code_64 22 rfl rfl rfl) (by decide) ?_
        exact b_M_item_202 X ho hf hZ30 hS30 (lv_sub hl [0, 1] rfl)
    · replace hf := gneg hf h6
      refine lv_aload_n hx hb (D_42 W_prog_15_method_46_code_32 18 rfl rfl) rfl (lv_at hl 1 rfl) ?_
      obtain ⟨r31, F31, B31, hc31, hf⟩ := gbind hf
      refine va_callv (va_runV (As := []) (rest := []) ⟨hx, hb, hml, hown, hts⟩ (c_M_chord (l := l) hc31) (cwV 0 hts (gdV k_14_183 k_14_185 ks_217 k_1_9 k_14_186) rfl rfl rfl (by decide +kernel) ⟨by dsimp only; omega, by dsimp only; omega⟩) (zPV X hZ4 hS4 (ci := 14) (by decide) (by decide) (r := (RX14, TX14, 107)) rfl []) rfl rfl hl.1 rfl (lv_room (Nat.le_of_ble_eq_true rfl)) (D_182 W_prog_15_method_46_code_32 19 rfl rfl rfl) ⟨Nat.le_of_ble_eq_true rfl, Nat.le_of_ble_eq_true rfl⟩) hS4 (fun q _ h => zAin X hS4 q h) (zAin X hS4) (fun u31 t31 H31 locs31 ht31 hv31 hw31 hB31 hz31 hk31 hS31 => ?_)
      have hZ31 := zBack X ht31 hB31
      refine lv_aload_n hx hb (D_42 W_prog_15_method_46_code_32 22 rfl rfl) rfl (lv_at hl 1 rfl) ?_
      refine lv_iload_n hx hb (D_27 W_prog_15_method_46_code_32 23 rfl rfl) rfl (lv_at hl 0 rfl) ?_
      obtain ⟨r33, F33, B33, hc33, hf⟩ := gbind hf
      refine va_callv (va_runV (As := [.int (iI (F 14 0 16))]) (rest := []) ⟨hx, hb, hml, hown, hts⟩ (c_M_length (l := l) hc33) (cwV 1 hts (gdV k_14_171 k_14_173 ks_214 k_1_9 k_14_174) rfl rfl rfl (by decide +kernel) ⟨by dsimp only; omega, by dsimp only; omega⟩) (zPV X hZ31 hS31 (ci := 14) (by decide) (by decide) (r := (RX14, TX14, 107)) rfl [.int (iI (F 14 0 16))]) rfl rfl hl.1 rfl (lv_room (Nat.le_of_ble_eq_true rfl)) (D_182 W_prog_15_method_46_code_32 24 rfl rfl rfl) ⟨Nat.le_of_ble_eq_true rfl, Nat.le_of_ble_eq_true rfl⟩) hS31 (fun q _ h => zAin X hS31 q h) (zAin X hS31) (fun u33 t33 H33 locs33 ht33 hv33 hw33 hB33 hz33 hk33 hS33 => ?_)
      have hZ33 := zBack X ht33 hB33
      refine lv_aload_n hx hb (D_42 W_prog_15_method_46_code_32 27 rfl rfl) rfl (lv_at hl 1 rfl) ?_
      refine lv_iload_n hx hb (D_27 W_prog_15_method_46_code_32 28 rfl rfl) rfl (lv_at hl 0 rfl) ?_
      obtain ⟨r34, F34, B34, hc34, hf⟩ := gbind hf
      refine va_callv (va_runV (As := [.int (iI (F 14 0 16))]) (rest := []) ⟨hx, hb, hml, hown, hts⟩ (c_M_marks (l := l) hc34) (cwV 1 hts (gdV k_14_175 k_14_177 ks_215 k_1_9 k_14_178) rfl rfl rfl (by decide +kernel) ⟨by dsimp only; omega, by dsimp only; omega⟩) (zPV X hZ33 hS33 (ci := 14) (by decide) (by decide) (r := (RX14, TX14, 107)) rfl [.int (iI (F 14 0 16))]) rfl rfl hl.1 rfl (lv_room (Nat.le_of_ble_eq_true rfl)) (D_182 W_prog_15_method_46_code_32 29 rfl rfl rfl) ⟨Nat.le_of_ble_eq_true rfl, Nat.le_of_ble_eq_true rfl⟩) hS33 (fun q _ h => zAin X hS33 q h) (zAin X hS33) (fun u34 t34 H34 locs34 ht34 hv34 hw34 hB34 hz34 hk34 hS34 => ?_)
      have hZ34 := zBack X ht34 hB34
      refine lv_goto (tgt := 202) hx hb (D_167 W_prog_15_method_46_code_64 0 rfl rfl rfl) (by decide) ?_
      exact b_M_item_202 X ho hf hZ34 hS34 (lv_sub hl [0, 1] rfl)
  · replace hf := gpos hf h3
    refine lv_aload_n hx hb (D_42 W_prog_15_method_46_code_0 18 rfl rfl) rfl (lv_at hl 1 rfl) ?_
    refine lv_dup hx hb (D_89 W_prog_15_method_46_code_0 19 rfl rfl) rfl ?_
    refine zget (ci := 14) (C := RX14) (T := TX14) (v := .int (iI (F 14 0 16))) (k := 16) hx hb hts inW_14 hown hK hZ (by decide) (by decide) rfl (by decide) k_11_14 rfl (D_180 W_prog_15_method_46_code_0 20 rfl rfl rfl) ?_
    refine lv_iconst (v := iI 1) hx hb (D_4 W_prog_15_method_46_code_0 23 rfl rfl) rfl ?_
    refine zadd hx hb (D_96 W_prog_15_method_46_code_0 24 rfl rfl) ?_
    refine zput (ci := 14) (C := RX14) (T := TX14) (k := 16) (v := ((F 14 0 16) + 1)) (w := .int (iI ((F 14 0 16) + 1))) hx hb hts inW_14 tyX14 tyX14_ok nmX14 hown hK hZ hS (by decide) (by decide) rfl (by decide) k_11_14 rfl (fun G h => congrArg (fun q => Value.int (iI q)) h) rfl rfl (zno (by decide)) (D_181 W_prog_15_method_46_code_0 25 rfl rfl rfl) (fun H35 locs35 hZ35 hS35 => ?_)
    refine lv_aload_n hx hb (D_42 W_prog_15_method_46_code_0 28 rfl rfl) rfl (lv_at hl 1 rfl) ?_
    refine lv_iload_n hx hb (D_27 W_prog_15_method_46_code_0 29 rfl rfl) rfl (lv_at hl 0 rfl) ?_
    obtain ⟨r36, F36, B36, hc36, hf⟩ := gbind hf
    refine va_callv (va_runV (As := [.int (iI (F 14 0 16))]) (rest := []) ⟨hx, hb, hml, hown, hts⟩ (c_M_length (l := l) hc36) (cwV 1 hts (gdV k_14_171 k_14_173 ks_214 k_1_9 k_14_174) rfl rfl rfl (by decide +kernel) ⟨by dsimp only; omega, by dsimp only; omega⟩) (zPV X hZ35 hS35 (ci := 14) (by decide) (by decide) (r := (RX14, TX14, 107)) rfl [.int (iI (F 14 0 16))]) rfl rfl hl.1 rfl (lv_room (Nat.le_of_ble_eq_true rfl)) (D_182 W_prog_15_method_46_code_0 30 rfl rfl rfl) ⟨Nat.le_of_ble_eq_true rfl, Nat.le_of_ble_eq_true rfl⟩) hS35 (fun q _ h => zAin X hS35 q h) (zAin X hS35) (fun u36 t36 H36 locs36 ht36 hv36 hw36 hB36 hz36 hk36 hS36 => ?_)
    have hZ36 := zBack X ht36 hB36
    refine lv_aload_n hx hb (D_42 W_prog_15_method_46_code_32 1 rfl rfl) rfl (lv_at hl 1 rfl) ?_
    refine lv_iload_n hx hb (D_27 W_prog_15_method_46_code_32 2 rfl rfl) rfl (lv_at hl 0 rfl) ?_
    obtain ⟨r37, F37, B37, hc37, hf⟩ := gbind hf
    refine va_callv (va_runV (As := [.int (iI (F 14 0 16))]) (rest := []) ⟨hx, hb, hml, hown, hts⟩ (c_M_marks (l := l) hc37) (cwV 1 hts (gdV k_14_175 k_14_177 ks_215 k_1_9 k_14_178) rfl rfl rfl (by decide +kernel) ⟨by dsimp only; omega, by dsimp only; omega⟩) (zPV X hZ36 hS36 (ci := 14) (by decide) (by decide) (r := (RX14, TX14, 107)) rfl [.int (iI (F 14 0 16))]) rfl rfl hl.1 rfl (lv_room (Nat.le_of_ble_eq_true rfl)) (D_182 W_prog_15_method_46_code_32 3 rfl rfl rfl) ⟨Nat.le_of_ble_eq_true rfl, Nat.le_of_ble_eq_true rfl⟩) hS36 (fun q _ h => zAin X hS36 q h) (zAin X hS36) (fun u37 t37 H37 locs37 ht37 hv37 hw37 hB37 hz37 hk37 hS37 => ?_)
    have hZ37 := zBack X ht37 hB37
    refine lv_goto (tgt := 202) hx hb (D_167 W_prog_15_method_46_code_32 6 rfl rfl rfl) (by decide) ?_
    exact b_M_item_202 X ho hf hZ37 hS37 (lv_sub hl [0, 1] rfl)

def f_M_tuplet_64 (o : oT_P) (K : Nat) (l1 : Int) (F : zF) (B : zB) : zO := zbind (f_M_closing K l1 93 F B) (fun r13 F13 B13 => some (0, F13, B13))
set_option maxHeartbeats 4000000 in
set_option maxRecDepth 100000 in
theorem b_M_tuplet_64 {D : va_G} {ca : Nat → ClassId} {ad : Nat → Int → Nat → Nat} {L : List Nat} {aS vS : Nat → Nat} {A : Nat → Prop} {p : Program} {l : Launch} {e : Env} {s : State} {m : MethodId} {args : Array Value} {below : List Frame} {meth : Method} {c : Code} {K : Nat} {r : Int} {F9 : zF} {B9 : zB} {d : Nat} {o : oT_P} (X : zX D ca L aS vS A p s m args meth c prog_15_method_48_code 2 (Option.none : Option Jvm.ClassFile.FieldType) "StaveHouseModel") (ho : oH_P l D ca ad L aS vS d o) {l1 : Int} {F : zF} {B : zB} {H : Heap} {locs : List Loc} {ls : Array Slot} (hf : f_M_tuplet_64 o K l1 F B = some (r, F9, B9)) (hZ : zH D ca ad lnM nM L F B A H) (hS : va_S A s.heap H locs) (hl : lv_has ls 2 [(1, .int (iI l1)), (0, .ref (ad 14 0 0))]) : W p l e ({ frames := d + 1 + 6, cells := 0, slots := 0, locals := 23 * (d + 1) + 110 } : Room) s m args below meth c H locs 0 0 (MQ below (Q_M_tuplet D ca ad L r F9 B9 A) args s 0 0 A) (F0 m 64 ls []) := by
  obtain ⟨hx, hb, hr, hml, hown, hts, hlk, hK, hA, hL, hX⟩ := id X
  replace hf : (zbind (f_M_closing K l1 93 F B) (fun r13 F13 B13 => some (0, F13, B13))) = some (r, F9, B9) := hf
  refine lv_aload_n hx hb (D_42 W_prog_15_method_48_code_64 0 rfl rfl) rfl (lv_at hl 1 rfl) ?_
  refine lv_iload_n hx hb (D_27 W_prog_15_method_48_code_64 1 rfl rfl) rfl (lv_at hl 0 rfl) ?_
  refine lv_bipush (v := iI 93) hx hb (D_16 W_prog_15_method_48_code_64 2 rfl rfl rfl) (by decide) ?_
  obtain ⟨r13, F13, B13, hc13, hf⟩ := gbind hf
  refine va_callv (va_runV (As := [.int (iI l1), .int (iI 93)]) (rest := []) ⟨hx, hb, hml, hown, hts⟩ (c_M_closing (l := l) hc13) (cwV 2 hts (gdV k_14_191 k_14_193 ks_219 k_1_9 k_14_194) rfl rfl rfl (by decide +kernel) ⟨by dsimp only; omega, by dsimp only; omega⟩) (zPV X hZ hS (ci := 14) (by decide) (by decide) (r := (RX14, TX14, 107)) rfl [.int (iI l1), .int (iI 93)]) rfl rfl hl.1 rfl (lv_room (Nat.le_of_ble_eq_true rfl)) (D_182 W_prog_15_method_48_code_64 4 rfl rfl rfl) ⟨Nat.le_of_ble_eq_true rfl, Nat.le_of_ble_eq_true rfl⟩) hS (fun q _ h => zAin X hS q h) (zAin X hS) (fun u13 t13 H13 locs13 ht13 hv13 hw13 hB13 hz13 hk13 hS13 => ?_)
  have hZ13 := zBack X ht13 hB13
  cases hf
  exact W.vret hx hb hr (fun t ht hW => ⟨⟨(), rfl, trivial, by rw [ht]; exact hZ13, va_K.moved hW.alike hK⟩, hS13.F ht⟩) hS13.2.2 (D_177 W_prog_15_method_48_code_64 7 rfl rfl) hlk

def f_M_tuplet_41 (o : oT_P) (K : Nat) : Nat → Int → zF → zB → zO
  | 0, _, _, _ => none
  | n + 1, l1, F, B => zbind (f_M_good K F B) (fun r6 F6 B6 => if r32 r6 then (if r6 = 0 then f_M_tuplet_64 o K l1 F6 B6 else zbind (f_M_isSign K 93 F6 B6) (fun r9 F9 B9 => if r32 r9 then (if r9 = 0 then zbind (o.2.1 F9 B9) (fun r12 F12 B12 => f_M_tuplet_41 o K n l1 F12 B12) else f_M_tuplet_64 o K l1 F9 B9) else none)) else none)
set_option maxHeartbeats 4000000 in
set_option maxRecDepth 100000 in
theorem b_M_tuplet_41 {D : va_G} {ca : Nat → ClassId} {ad : Nat → Int → Nat → Nat} {L : List Nat} {aS vS : Nat → Nat} {A : Nat → Prop} {p : Program} {l : Launch} {e : Env} {s : State} {m : MethodId} {args : Array Value} {below : List Frame} {meth : Method} {c : Code} {K : Nat} {r : Int} {F9 : zF} {B9 : zB} {d : Nat} {o : oT_P} (X : zX D ca L aS vS A p s m args meth c prog_15_method_48_code 2 (Option.none : Option Jvm.ClassFile.FieldType) "StaveHouseModel") (ho : oH_P l D ca ad L aS vS d o) : ∀ {n : Nat} {l1 : Int} {F : zF} {B : zB} {H : Heap} {locs : List Loc} {ls : Array Slot}, f_M_tuplet_41 o K n l1 F B = some (r, F9, B9) → zH D ca ad lnM nM L F B A H → va_S A s.heap H locs → lv_has ls 2 [(1, .int (iI l1)), (0, .ref (ad 14 0 0))] → W p l e ({ frames := d + 1 + 6, cells := 0, slots := 0, locals := 23 * (d + 1) + 110 } : Room) s m args below meth c H locs 0 0 (MQ below (Q_M_tuplet D ca ad L r F9 B9 A) args s 0 0 A) (F0 m 41 ls []) := by
  obtain ⟨hx, hb, hr, hml, hown, hts, hlk, hK, hA, hL, hX⟩ := id X
  intro n
  induction n with
  | zero =>
    intros
    rename_i hf _ _ _
    cases hf
  | succ n ih =>
    intro l1 F B H locs ls hf hZ hS hl
    replace hf : (zbind (f_M_good K F B) (fun r6 F6 B6 => if r32 r6 then (if r6 = 0 then f_M_tuplet_64 o K l1 F6 B6 else zbind (f_M_isSign K 93 F6 B6) (fun r9 F9 B9 => if r32 r9 then (if r9 = 0 then zbind (o.2.1 F9 B9) (fun r12 F12 B12 => f_M_tuplet_41 o K n l1 F12 B12) else f_M_tuplet_64 o K l1 F9 B9) else none)) else none)) = some (r, F9, B9) := hf
    refine lv_aload_n hx hb (D_42 W_prog_15_method_48_code_32 9 rfl rfl) rfl (lv_at hl 1 rfl) ?_
    obtain ⟨r6, F6, B6, hc6, hf⟩ := gbind hf
    refine va_calli (va_runV (As := []) (rest := []) ⟨hx, hb, hml, hown, hts⟩ (c_M_good (l := l) hc6) (cwV 0 hts (gdV k_13_15 k_13_17 ks_152 k_1_9 k_13_18) rfl rfl rfl (by decide +kernel) ⟨by dsimp only; omega, by dsimp only; omega⟩) (zPV X hZ hS (ci := 14) (by decide) (by decide) (r := (RX14, TX14, 107)) rfl []) rfl rfl hl.1 rfl (lv_room (Nat.le_of_ble_eq_true rfl)) (D_182 W_prog_15_method_48_code_32 10 rfl rfl rfl) ⟨Nat.le_of_ble_eq_true rfl, Nat.le_of_ble_eq_true rfl⟩) hS (fun q _ h => zAin X hS q h) (zAin X hS) (fun p6 u6 t6 H6 locs6 ht6 hv6 hw6 hB6 hz6 hk6 hS6 => ?_)
    have hZ6 := zBack X ht6 hB6
    subst hw6
    obtain ⟨g7, hf⟩ := gif hf
    refine z0eq (tgt := 64) hx hb g7 (D_153 W_prog_15_method_48_code_32 13 rfl rfl rfl) (by decide) (fun h8 => ?_) (fun h8 => ?_)
    · replace hf := gpos hf h8
      exact b_M_tuplet_64 X ho hf hZ6 hS6 (lv_sub hl [0, 1] rfl)
    · replace hf := gneg hf h8
      refine lv_aload_n hx hb (D_42 W_prog_15_method_48_code_32 16 rfl rfl) rfl (lv_at hl 1 rfl) ?_
      refine lv_bipush (v := iI 93) hx hb (D_16 W_prog_15_method_48_code_32 17 rfl rfl rfl) (by decide) ?_
      obtain ⟨r9, F9, B9, hc9, hf⟩ := gbind hf
      refine va_calli (va_runV (As := [.int (iI 93)]) (rest := []) ⟨hx, hb, hml, hown, hts⟩ (c_M_isSign (l := l) hc9) (cwV 1 hts (gdV k_14_136 k_14_138 ks_206 k_1_9 k_14_139) rfl rfl rfl (by decide +kernel) ⟨by dsimp only; omega, by dsimp only; omega⟩) (zPV X hZ6 hS6 (ci := 14) (by decide) (by decide) (r := (RX14, TX14, 107)) rfl [.int (iI 93)]) rfl rfl hl.1 rfl (lv_room (Nat.le_of_ble_eq_true rfl)) (D_182 W_prog_15_method_48_code_32 19 rfl rfl rfl) ⟨Nat.le_of_ble_eq_true rfl, Nat.le_of_ble_eq_true rfl⟩) hS6 (fun q _ h => zAin X hS6 q h) (zAin X hS6) (fun p9 u9 t9 H9 locs9 ht9 hv9 hw9 hB9 hz9 hk9 hS9 => ?_)
      have hZ9 := zBack X ht9 hB9
      subst hw9
      obtain ⟨g10, hf⟩ := gif hf
      refine z0ne (tgt := 64) hx hb g10 (D_154 W_prog_15_method_48_code_32 22 rfl rfl rfl) (by decide) (fun h11 => ?_) (fun h11 => ?_)
      · replace hf := gneg hf h11
        exact b_M_tuplet_64 X ho hf hZ9 hS9 (lv_sub hl [0, 1] rfl)
      · replace hf := gpos hf h11
        refine lv_aload_n hx hb (D_42 W_prog_15_method_48_code_32 25 rfl rfl) rfl (lv_at hl 1 rfl) ?_
        obtain ⟨r12, F12, B12, hc12, hf⟩ := gbind hf
        refine va_callv (va_runV (As := []) (rest := []) ⟨hx, hb, hml, hown, hts⟩ (ho.2.1 hc12) (cwV 0 hts (gdV k_14_167 k_14_169 ks_213 k_1_9 k_14_170) rfl rfl rfl (by decide +kernel) ⟨by dsimp only; omega, by dsimp only; omega⟩) (zPV X hZ9 hS9 (ci := 14) (by decide) (by decide) (r := (RX14, TX14, 107)) rfl []) rfl rfl hl.1 rfl (lv_room (Nat.le_of_ble_eq_true rfl)) (D_182 W_prog_15_method_48_code_32 26 rfl rfl rfl) ⟨Nat.le_of_ble_eq_true rfl, Nat.le_of_ble_eq_true rfl⟩) hS9 (fun q _ h => zAin X hS9 q h) (zAin X hS9) (fun u12 t12 H12 locs12 ht12 hv12 hw12 hB12 hz12 hk12 hS12 => ?_)
        have hZ12 := zBack X ht12 hB12
        refine lv_goto (tgt := 41) hx hb (D_167 W_prog_15_method_48_code_32 29 rfl rfl rfl) (by decide) ?_
        exact ih hf hZ12 hS12 (lv_sub hl [0, 1] rfl)

def fb_M_tuplet (o : oT_P) (K : Nat)  (F : zF) (B : zB) : zO := zbind (f_M_opening K 91 F B) (fun r1 F1 B1 => zbind (f_M_number K 2 9 0 F1 B1) (fun r2 F2 B2 => zbind (f_M_need K 47 F2 B2) (fun r3 F3 B3 => zbind (f_M_number K 1 9 0 F3 B3) (fun r4 F4 B4 => zbind (f_M_need K 58 F4 B4) (fun r5 F5 B5 => f_M_tuplet_41 o K K (F 14 0 16) F5 B5)))))
set_option maxHeartbeats 4000000 in
set_option maxRecDepth 100000 in
theorem cb_M_tuplet {l : Launch} {D : va_G} {ca : Nat → ClassId} {ad : Nat → Int → Nat → Nat} {L : List Nat} {aS vS : Nat → Nat} {sz K : Nat} {d : Nat} {o : oT_P} (ho : oH_P l D ca ad L aS vS d o)   {F F9 : zF} {B B9 : zB} {r : Int} (hf : fb_M_tuplet o K  F B = some (r, F9, B9)) : Met l ({ cls := "StaveHouseModel", name := "tuplet", desc := "()V" } : Jvm.MethodName) (Cond.code ({ cls := "StaveHouseModel", name := "tuplet", desc := "()V" } : Jvm.MethodName) prog_15_method_48_code 2 (Option.none : Option Jvm.ClassFile.FieldType) :: wAll) ({ frames := d + 1 + 6, cells := 0, slots := 0, locals := 23 * (d + 1) + 110 } : Room) (va_Pc [.ref (ad 14 0 0)] (zPre D ca ad lnM nM L aS vS F B sz)) (Q_M_tuplet D ca ad L r F9 B9 (zA L sz)) 0 0 (zA L sz) := by
  refine zMet (Qc := Q_M_tuplet D ca ad L r F9 B9) (lv := [(0, .ref (ad 14 0 0))]) (by decide) (Nat.le_of_ble_eq_true rfl) rfl (fun A p e s m below meth c ls X hZ hS hl => ?_)
  obtain ⟨hx, hb, hr, hml, hown, hts, hlk, hK, hA, hL, hX⟩ := id X
  replace hf : (zbind (f_M_opening K 91 F B) (fun r1 F1 B1 => zbind (f_M_number K 2 9 0 F1 B1) (fun r2 F2 B2 => zbind (f_M_need K 47 F2 B2) (fun r3 F3 B3 => zbind (f_M_number K 1 9 0 F3 B3) (fun r4 F4 B4 => zbind (f_M_need K 58 F4 B4) (fun r5 F5 B5 => f_M_tuplet_41 o K K (F 14 0 16) F5 B5)))))) = some (r, F9, B9) := hf
  refine lv_aload_n hx hb (D_42 W_prog_15_method_48_code_0 0 rfl rfl) rfl (lv_at hl 0 rfl) ?_
  refine zget (ci := 14) (C := RX14) (T := TX14) (v := .int (iI (F 14 0 16))) (k := 16) hx hb hts inW_14 hown hK hZ (by decide) (by decide) rfl (by decide) k_11_14 rfl (D_180 W_prog_15_method_48_code_0 1 rfl rfl rfl) ?_
  refine lv_istore_n (lv' := [(1, .int (iI (F 14 0 16))), (0, .ref (ad 14 0 0))]) hx hb (D_60 W_prog_15_method_48_code_0 4 rfl rfl) rfl hl (by decide) rfl (fun ls hl => ?_)
  refine lv_aload_n hx hb (D_42 W_prog_15_method_48_code_0 5 rfl rfl) rfl (lv_at hl 1 rfl) ?_
  refine lv_bipush (v := iI 91) hx hb (D_16 W_prog_15_method_48_code_0 6 rfl rfl rfl) (by decide) ?_
  obtain ⟨r1, F1, B1, hc1, hf⟩ := gbind hf
  refine va_callv (va_runV (As := [.int (iI 91)]) (rest := []) ⟨hx, hb, hml, hown, hts⟩ (c_M_opening (l := l) hc1) (cwV 1 hts (gdV k_14_163 k_14_165 ks_212 k_1_9 k_14_166) rfl rfl rfl (by decide +kernel) ⟨by dsimp only; omega, by dsimp only; omega⟩) (zPV X hZ hS (ci := 14) (by decide) (by decide) (r := (RX14, TX14, 107)) rfl [.int (iI 91)]) rfl rfl hl.1 rfl (lv_room (Nat.le_of_ble_eq_true rfl)) (D_182 W_prog_15_method_48_code_0 8 rfl rfl rfl) ⟨Nat.le_of_ble_eq_true rfl, Nat.le_of_ble_eq_true rfl⟩) hS (fun q _ h => zAin X hS q h) (zAin X hS) (fun u1 t1 H1 locs1 ht1 hv1 hw1 hB1 hz1 hk1 hS1 => ?_)
  have hZ1 := zBack X ht1 hB1
  refine lv_aload_n hx hb (D_42 W_prog_15_method_48_code_0 11 rfl rfl) rfl (lv_at hl 1 rfl) ?_
  refine lv_iconst (v := iI 2) hx hb (D_5 W_prog_15_method_48_code_0 12 rfl rfl) rfl ?_
  refine lv_bipush (v := iI 9) hx hb (D_16 W_prog_15_method_48_code_0 13 rfl rfl rfl) (by decide) ?_
  refine lv_iconst (v := iI 0) hx hb (D_3 W_prog_15_method_48_code_0 15 rfl rfl) rfl ?_
  obtain ⟨r2, F2, B2, hc2, hf⟩ := gbind hf
  refine va_calli (va_runV (As := [.int (iI 2), .int (iI 9), .int (iI 0)]) (rest := []) ⟨hx, hb, hml, hown, hts⟩ (c_M_number (l := l) hc2) (cwV 3 hts (gdV k_14_140 k_14_142 ks_207 k_1_9 k_14_143) rfl rfl rfl (by decide +kernel) ⟨by dsimp only; omega, by dsimp only; omega⟩) (zPV X hZ1 hS1 (ci := 14) (by decide) (by decide) (r := (RX14, TX14, 107)) rfl [.int (iI 2), .int (iI 9), .int (iI 0)]) rfl rfl hl.1 rfl (lv_room (Nat.le_of_ble_eq_true rfl)) (D_182 W_prog_15_method_48_code_0 16 rfl rfl rfl) ⟨Nat.le_of_ble_eq_true rfl, Nat.le_of_ble_eq_true rfl⟩) hS1 (fun q _ h => zAin X hS1 q h) (zAin X hS1) (fun p2 u2 t2 H2 locs2 ht2 hv2 hw2 hB2 hz2 hk2 hS2 => ?_)
  have hZ2 := zBack X ht2 hB2
  subst hw2
  refine lv_pop hx hb (D_87 W_prog_15_method_48_code_0 19 rfl rfl) rfl ?_
  refine lv_aload_n hx hb (D_42 W_prog_15_method_48_code_0 20 rfl rfl) rfl (lv_at hl 1 rfl) ?_
  refine lv_bipush (v := iI 47) hx hb (D_16 W_prog_15_method_48_code_0 21 rfl rfl rfl) (by decide) ?_
  obtain ⟨r3, F3, B3, hc3, hf⟩ := gbind hf
  refine va_callv (va_runV (As := [.int (iI 47)]) (rest := []) ⟨hx, hb, hml, hown, hts⟩ (c_M_need (l := l) hc3) (cwV 1 hts (gdV k_14_144 k_14_146 ks_208 k_1_9 k_14_147) rfl rfl rfl (by decide +kernel) ⟨by dsimp only; omega, by dsimp only; omega⟩) (zPV X hZ2 hS2 (ci := 14) (by decide) (by decide) (r := (RX14, TX14, 107)) rfl [.int (iI 47)]) rfl rfl hl.1 rfl (lv_room (Nat.le_of_ble_eq_true rfl)) (D_182 W_prog_15_method_48_code_0 23 rfl rfl rfl) ⟨Nat.le_of_ble_eq_true rfl, Nat.le_of_ble_eq_true rfl⟩) hS2 (fun q _ h => zAin X hS2 q h) (zAin X hS2) (fun u3 t3 H3 locs3 ht3 hv3 hw3 hB3 hz3 hk3 hS3 => ?_)
  have hZ3 := zBack X ht3 hB3
  refine lv_aload_n hx hb (D_42 W_prog_15_method_48_code_0 26 rfl rfl) rfl (lv_at hl 1 rfl) ?_
  refine lv_iconst (v := iI 1) hx hb (D_4 W_prog_15_method_48_code_0 27 rfl rfl) rfl ?_
  refine lv_bipush (v := iI 9) hx hb (D_16 W_prog_15_method_48_code_0 28 rfl rfl rfl) (by decide) ?_
  refine lv_iconst (v := iI 0) hx hb (D_3 W_prog_15_method_48_code_0 30 rfl rfl) rfl ?_
  obtain ⟨r4, F4, B4, hc4, hf⟩ := gbind hf
  refine va_calli (va_runV (As := [.int (iI 1), .int (iI 9), .int (iI 0)]) (rest := []) ⟨hx, hb, hml, hown, hts⟩ (c_M_number (l := l) hc4) (cwV 3 hts (gdV k_14_140 k_14_142 ks_207 k_1_9 k_14_143) rfl rfl rfl (by decide +kernel) ⟨by dsimp only; omega, by dsimp only; omega⟩) (zPV X hZ3 hS3 (ci := 14) (by decide) (by decide) (r := (RX14, TX14, 107)) rfl [.int (iI 1), .int (iI 9), .int (iI 0)]) rfl rfl hl.1 rfl (lv_room (Nat.le_of_ble_eq_true rfl)) (D_182 W_prog_15_method_48_code_0 31 rfl rfl rfl) ⟨Nat.le_of_ble_eq_true rfl, Nat.le_of_ble_eq_true rfl⟩) hS3 (fun q _ h => zAin X hS3 q h) (zAin X hS3) (fun p4 u4 t4 H4 locs4 ht4 hv4 hw4 hB4 hz4 hk4 hS4 => ?_)
  have hZ4 := zBack X ht4 hB4
  subst hw4
  refine lv_pop hx hb (D_87 W_prog_15_method_48_code_32 2 rfl rfl) rfl ?_
  refine lv_aload_n hx hb (D_42 W_prog_15_method_48_code_32 3 rfl rfl) rfl (lv_at hl 1 rfl) ?_
  refine lv_bipush (v := iI 58) hx hb (D_16 W_prog_15_method_48_code_32 4 rfl rfl rfl) (by decide) ?_
  obtain ⟨r5, F5, B5, hc5, hf⟩ := gbind hf
  refine va_callv (va_runV (As := [.int (iI 58)]) (rest := []) ⟨hx, hb, hml, hown, hts⟩ (c_M_need (l := l) hc5) (cwV 1 hts (gdV k_14_144 k_14_146 ks_208 k_1_9 k_14_147) rfl rfl rfl (by decide +kernel) ⟨by dsimp only; omega, by dsimp only; omega⟩) (zPV X hZ4 hS4 (ci := 14) (by decide) (by decide) (r := (RX14, TX14, 107)) rfl [.int (iI 58)]) rfl rfl hl.1 rfl (lv_room (Nat.le_of_ble_eq_true rfl)) (D_182 W_prog_15_method_48_code_32 6 rfl rfl rfl) ⟨Nat.le_of_ble_eq_true rfl, Nat.le_of_ble_eq_true rfl⟩) hS4 (fun q _ h => zAin X hS4 q h) (zAin X hS4) (fun u5 t5 H5 locs5 ht5 hv5 hw5 hB5 hz5 hk5 hS5 => ?_)
  have hZ5 := zBack X ht5 hB5
  exact b_M_tuplet_41 X ho hf hZ5 hS5 (lv_sub hl [0, 1] rfl)

def f_M_itemOfWord_389 (o : oT_P) (K : Nat)  (F : zF) (B : zB) : zO := some (0, F, B)
set_option maxHeartbeats 4000000 in
set_option maxRecDepth 100000 in
theorem b_M_itemOfWord_389 {D : va_G} {ca : Nat → ClassId} {ad : Nat → Int → Nat → Nat} {L : List Nat} {aS vS : Nat → Nat} {A : Nat → Prop} {p : Program} {l : Launch} {e : Env} {s : State} {m : MethodId} {args : Array Value} {below : List Frame} {meth : Method} {c : Code} {K : Nat} {r : Int} {F9 : zF} {B9 : zB} {d : Nat} {o : oT_P} (X : zX D ca L aS vS A p s m args meth c prog_15_method_49_code 4 (Option.none : Option Jvm.ClassFile.FieldType) "StaveHouseModel") (ho : oH_P l D ca ad L aS vS d o)  {F : zF} {B : zB} {H : Heap} {locs : List Loc} {ls : Array Slot} (hf : f_M_itemOfWord_389 o K  F B = some (r, F9, B9)) (hZ : zH D ca ad lnM nM L F B A H) (hS : va_S A s.heap H locs) (hl : lv_has ls 4 []) : W p l e ({ frames := d + 1 + 6, cells := 0, slots := 0, locals := 23 * (d + 1) + 110 } : Room) s m args below meth c H locs 0 0 (MQ below (Q_M_itemOfWord D ca ad L r F9 B9 A) args s 0 0 A) (F0 m 389 ls []) := by
  obtain ⟨hx, hb, hr, hml, hown, hts, hlk, hK, hA, hL, hX⟩ := id X
  replace hf : (some (0, F, B)) = some (r, F9, B9) := hf
  cases hf
  exact W.vret hx hb hr (fun t ht hW => ⟨⟨(), rfl, trivial, by rw [ht]; exact hZ, va_K.moved hW.alike hK⟩, hS.F ht⟩) hS.2.2 (D_177 W_prog_15_method_49_code_384 5 rfl rfl) hlk

def f_M_itemOfWord_300 (o : oT_P) (K : Nat)  (F : zF) (B : zB) : zO := zbind (o.1 F B) (fun r80 F80 B80 => f_M_itemOfWord_389 o K F80 B80)
set_option maxHeartbeats 4000000 in
set_option maxRecDepth 100000 in
theorem b_M_itemOfWord_300 {D : va_G} {ca : Nat → ClassId} {ad : Nat → Int → Nat → Nat} {L : List Nat} {aS vS : Nat → Nat} {A : Nat → Prop} {p : Program} {l : Launch} {e : Env} {s : State} {m : MethodId} {args : Array Value} {below : List Frame} {meth : Method} {c : Code} {K : Nat} {r : Int} {F9 : zF} {B9 : zB} {d : Nat} {o : oT_P} (X : zX D ca L aS vS A p s m args meth c prog_15_method_49_code 4 (Option.none : Option Jvm.ClassFile.FieldType) "StaveHouseModel") (ho : oH_P l D ca ad L aS vS d o)  {F : zF} {B : zB} {H : Heap} {locs : List Loc} {ls : Array Slot} (hf : f_M_itemOfWord_300 o K  F B = some (r, F9, B9)) (hZ : zH D ca ad lnM nM L F B A H) (hS : va_S A s.heap H locs) (hl : lv_has ls 4 [(0, .ref (ad 14 0 0))]) : W p l e ({ frames := d + 1 + 6, cells := 0, slots := 0, locals := 23 * (d + 1) + 110 } : Room) s m args below meth c H locs 0 0 (MQ below (Q_M_itemOfWord D ca ad L r F9 B9 A) args s 0 0 A) (F0 m 300 ls []) := by
  obtain ⟨hx, hb, hr, hml, hown, hts, hlk, hK, hA, hL, hX⟩ := id X
  replace hf : (zbind (o.1 F B) (fun r80 F80 B80 => f_M_itemOfWord_389 o K F80 B80)) = some (r, F9, B9) := hf
  refine lv_aload_n hx hb (D_42 W_prog_15_method_49_code_288 12 rfl rfl) rfl (lv_at hl 0 rfl) ?_
  obtain ⟨r80, F80, B80, hc80, hf⟩ := gbind hf
  refine va_callv (va_runV (As := []) (rest := []) ⟨hx, hb, hml, hown, hts⟩ (ho.1 hc80) (cwV 0 hts (gdV k_14_159 k_14_161 ks_211 k_1_9 k_14_162) rfl rfl rfl (by decide +kernel) ⟨by dsimp only; omega, by dsimp only; omega⟩) (zPV X hZ hS (ci := 14) (by decide) (by decide) (r := (RX14, TX14, 107)) rfl []) rfl rfl hl.1 rfl (lv_room (Nat.le_of_ble_eq_true rfl)) (D_182 W_prog_15_method_49_code_288 13 rfl rfl rfl) ⟨Nat.le_of_ble_eq_true rfl, Nat.le_of_ble_eq_true rfl⟩) hS (fun q _ h => zAin X hS q h) (zAin X hS) (fun u80 t80 H80 locs80 ht80 hv80 hw80 hB80 hz80 hk80 hS80 => ?_)
  have hZ80 := zBack X ht80 hB80
  refine lv_goto (tgt := 389) hx hb (D_167 W_prog_15_method_49_code_288 16 rfl rfl rfl) (by decide) ?_
  exact b_M_itemOfWord_389 X ho hf hZ80 hS80 (lv_sub hl [] rfl)

def f_M_itemOfWord_294 (o : oT_P) (rec252 : Int → Int → zF → zB → zO) (K : Nat) (l3 : Int) (l2 : Int) (F : zF) (B : zB) : zO := rec252 (l3 + 1) l2 F B
set_option maxHeartbeats 4000000 in
set_option maxRecDepth 100000 in
theorem b_M_itemOfWord_294 {D : va_G} {ca : Nat → ClassId} {ad : Nat → Int → Nat → Nat} {L : List Nat} {aS vS : Nat → Nat} {A : Nat → Prop} {p : Program} {l : Launch} {e : Env} {s : State} {m : MethodId} {args : Array Value} {below : List Frame} {meth : Method} {c : Code} {K : Nat} {r : Int} {F9 : zF} {B9 : zB} {d : Nat} {o : oT_P} (X : zX D ca L aS vS A p s m args meth c prog_15_method_49_code 4 (Option.none : Option Jvm.ClassFile.FieldType) "StaveHouseModel") (ho : oH_P l D ca ad L aS vS d o) {rec252 : Int → Int → zF → zB → zO} (hrec252 : ∀ {l3 : Int} {l2 : Int} {F : zF} {B : zB} {H : Heap} {locs : List Loc} {ls : Array Slot}, rec252 l3 l2 F B = some (r, F9, B9) → zH D ca ad lnM nM L F B A H → va_S A s.heap H locs → lv_has ls 4 [(3, .int (iI l3)), (2, .int (iI l2)), (0, .ref (ad 14 0 0))] → W p l e ({ frames := d + 1 + 6, cells := 0, slots := 0, locals := 23 * (d + 1) + 110 } : Room) s m args below meth c H locs 0 0 (MQ below (Q_M_itemOfWord D ca ad L r F9 B9 A) args s 0 0 A) (F0 m 252 ls [])) {l3 : Int} {l2 : Int} {F : zF} {B : zB} {H : Heap} {locs : List Loc} {ls : Array Slot} (hf : f_M_itemOfWord_294 o rec252 K l3 l2 F B = some (r, F9, B9)) (hZ : zH D ca ad lnM nM L F B A H) (hS : va_S A s.heap H locs) (hl : lv_has ls 4 [(3, .int (iI l3)), (2, .int (iI l2)), (0, .ref (ad 14 0 0))]) : W p l e ({ frames := d + 1 + 6, cells := 0, slots := 0, locals := 23 * (d + 1) + 110 } : Room) s m args below meth c H locs 0 0 (MQ below (Q_M_itemOfWord D ca ad L r F9 B9 A) args s 0 0 A) (F0 m 294 ls []) := by
  obtain ⟨hx, hb, hr, hml, hown, hts, hlk, hK, hA, hL, hX⟩ := id X
  replace hf : (rec252 (l3 + 1) l2 F B) = some (r, F9, B9) := hf
  refine lv_iinc (v := iI (l3 + 1)) (lv' := [(3, .int (iI (l3 + 1))), (2, .int (iI l2)), (0, .ref (ad 14 0 0))]) hx hb d_15_49_294 hl (k := 0) rfl (iI_add _ 1) (by decide) rfl (fun ls hl => ?_)
  refine lv_goto (tgt := 252) hx hb (D_167 W_prog_15_method_49_code_288 9 rfl rfl rfl) (by decide) ?_
  exact hrec252 hf hZ hS (lv_sub hl [0, 1, 2] rfl)

def f_M_itemOfWord_252 (o : oT_P) (K : Nat) : Nat → Int → Int → zF → zB → zO
  | 0, _, _, _, _ => none
  | n + 1, l3, l2, F, B => if r32 l3 then if r32 l2 then (if l2 ≤ l3 then f_M_itemOfWord_300 o K F B else zbind (f_M_good K F B) (fun r72 F72 B72 => if r32 r72 then (if r72 = 0 then f_M_itemOfWord_300 o K F72 B72 else if 0 ≤ (F72 14 0 16) ∧ (F72 14 0 16) < 3001 then if r32 (B72 14 0 7 (F72 14 0 16)) then (if (B72 14 0 7 (F72 14 0 16)) = 2 then f_M_itemOfWord_294 o (f_M_itemOfWord_252 o K n) K l3 l2 (zup3 F72 14 0 16 ((F72 14 0 16) + 1)) B72 else zbind (f_M_wrong K F72 B72) (fun r78 F78 B78 => f_M_itemOfWord_294 o (f_M_itemOfWord_252 o K n) K l3 l2 F78 B78)) else none else none) else none)) else none else none
set_option maxHeartbeats 4000000 in
set_option maxRecDepth 100000 in
theorem b_M_itemOfWord_252 {D : va_G} {ca : Nat → ClassId} {ad : Nat → Int → Nat → Nat} {L : List Nat} {aS vS : Nat → Nat} {A : Nat → Prop} {p : Program} {l : Launch} {e : Env} {s : State} {m : MethodId} {args : Array Value} {below : List Frame} {meth : Method} {c : Code} {K : Nat} {r : Int} {F9 : zF} {B9 : zB} {d : Nat} {o : oT_P} (X : zX D ca L aS vS A p s m args meth c prog_15_method_49_code 4 (Option.none : Option Jvm.ClassFile.FieldType) "StaveHouseModel") (ho : oH_P l D ca ad L aS vS d o) : ∀ {n : Nat} {l3 : Int} {l2 : Int} {F : zF} {B : zB} {H : Heap} {locs : List Loc} {ls : Array Slot}, f_M_itemOfWord_252 o K n l3 l2 F B = some (r, F9, B9) → zH D ca ad lnM nM L F B A H → va_S A s.heap H locs → lv_has ls 4 [(3, .int (iI l3)), (2, .int (iI l2)), (0, .ref (ad 14 0 0))] → W p l e ({ frames := d + 1 + 6, cells := 0, slots := 0, locals := 23 * (d + 1) + 110 } : Room) s m args below meth c H locs 0 0 (MQ below (Q_M_itemOfWord D ca ad L r F9 B9 A) args s 0 0 A) (F0 m 252 ls []) := by
  obtain ⟨hx, hb, hr, hml, hown, hts, hlk, hK, hA, hL, hX⟩ := id X
  intro n
  induction n with
  | zero =>
    intros
    rename_i hf _ _ _
    cases hf
  | succ n ih =>
    intro l3 l2 F B H locs ls hf hZ hS hl
    replace hf : (if r32 l3 then if r32 l2 then (if l2 ≤ l3 then f_M_itemOfWord_300 o K F B else zbind (f_M_good K F B) (fun r72 F72 B72 => if r32 r72 then (if r72 = 0 then f_M_itemOfWord_300 o K F72 B72 else if 0 ≤ (F72 14 0 16) ∧ (F72 14 0 16) < 3001 then if r32 (B72 14 0 7 (F72 14 0 16)) then (if (B72 14 0 7 (F72 14 0 16)) = 2 then f_M_itemOfWord_294 o (f_M_itemOfWord_252 o K n) K l3 l2 (zup3 F72 14 0 16 ((F72 14 0 16) + 1)) B72 else zbind (f_M_wrong K F72 B72) (fun r78 F78 B78 => f_M_itemOfWord_294 o (f_M_itemOfWord_252 o K n) K l3 l2 F78 B78)) else none else none) else none)) else none else none) = some (r, F9, B9) := hf
    refine lv_iload_n hx hb (D_29 W_prog_15_method_49_code_224 28 rfl rfl) rfl (lv_at hl 0 rfl) ?_
    refine lv_iload_n hx hb (D_28 W_prog_15_method_49_code_224 29 rfl rfl) rfl (lv_at hl 1 rfl) ?_
    obtain ⟨g69, hf⟩ := gif hf
    obtain ⟨g70, hf⟩ := gif hf
    refine zge (tgt := 300) hx hb g69 g70 (D_162 W_prog_15_method_49_code_224 30 rfl rfl rfl) (by decide) (fun h71 => ?_) (fun h71 => ?_)
    · replace hf := gpos hf h71
      exact b_M_itemOfWord_300 X ho hf hZ hS (lv_sub hl [2] rfl)
    · replace hf := gneg hf h71
      refine lv_aload_n hx hb (D_42 W_prog_15_method_49_code_256 1 rfl rfl) rfl (lv_at hl 2 rfl) ?_
      obtain ⟨r72, F72, B72, hc72, hf⟩ := gbind hf
      refine va_calli (va_runV (As := []) (rest := []) ⟨hx, hb, hml, hown, hts⟩ (c_M_good (l := l) hc72) (cwV 0 hts (gdV k_13_15 k_13_17 ks_152 k_1_9 k_13_18) rfl rfl rfl (by decide +kernel) ⟨by dsimp only; omega, by dsimp only; omega⟩) (zPV X hZ hS (ci := 14) (by decide) (by decide) (r := (RX14, TX14, 107)) rfl []) rfl rfl hl.1 rfl (lv_room (Nat.le_of_ble_eq_true rfl)) (D_182 W_prog_15_method_49_code_256 2 rfl rfl rfl) ⟨Nat.le_of_ble_eq_true rfl, Nat.le_of_ble_eq_true rfl⟩) hS (fun q _ h => zAin X hS q h) (zAin X hS) (fun p72 u72 t72 H72 locs72 ht72 hv72 hw72 hB72 hz72 hk72 hS72 => ?_)
      have hZ72 := zBack X ht72 hB72
      subst hw72
      obtain ⟨g73, hf⟩ := gif hf
      refine z0eq (tgt := 300) hx hb g73 (D_153 W_prog_15_method_49_code_256 5 rfl rfl rfl) (by decide) (fun h74 => ?_) (fun h74 => ?_)
      · replace hf := gpos hf h74
        exact b_M_itemOfWord_300 X ho hf hZ72 hS72 (lv_sub hl [2] rfl)
      · replace hf := gneg hf h74
        refine lv_aload_n hx hb (D_42 W_prog_15_method_49_code_256 8 rfl rfl) rfl (lv_at hl 2 rfl) ?_
        refine zget (ci := 14) (C := RX14) (T := TX14) (v := .ref (ad 14 0 (7 + 1))) (k := 7) hx hb hts inW_14 hown hK hZ72 (by decide) (by decide) rfl (by decide) k_11_5 rfl (D_180 W_prog_15_method_49_code_256 9 rfl rfl rfl) ?_
        refine lv_aload_n hx hb (D_42 W_prog_15_method_49_code_256 12 rfl rfl) rfl (lv_at hl 2 rfl) ?_
        refine zget (ci := 14) (C := RX14) (T := TX14) (v := .int (iI (F72 14 0 16))) (k := 16) hx hb hts inW_14 hown hK hZ72 (by decide) (by decide) rfl (by decide) k_11_14 rfl (D_180 W_prog_15_method_49_code_256 13 rfl rfl rfl) ?_
        obtain ⟨g75, hf⟩ := gif hf
        refine zald (ci := 14) (k := 7) hx hb hK rfl hZ72 (by decide) (by decide) rfl (Nat.le_of_ble_eq_true rfl) g75.1 g75.2 (D_46 W_prog_15_method_49_code_256 16 rfl rfl) ?_
        refine lv_iconst (v := iI 2) hx hb (D_5 W_prog_15_method_49_code_256 17 rfl rfl) rfl ?_
        obtain ⟨g76, hf⟩ := gif hf
        refine zne (tgt := 290) hx hb g76 (by decide) (D_160 W_prog_15_method_49_code_256 18 rfl rfl rfl) (by decide) (fun h77 => ?_) (fun h77 => ?_)
        · replace hf := gneg hf h77
          refine lv_aload_n hx hb (D_42 W_prog_15_method_49_code_288 2 rfl rfl) rfl (lv_at hl 2 rfl) ?_
          obtain ⟨r78, F78, B78, hc78, hf⟩ := gbind hf
          refine va_callv (va_runV (As := []) (rest := []) ⟨hx, hb, hml, hown, hts⟩ (c_M_wrong (l := l) hc78) (cwV 0 hts (gdV k_14_124 k_14_126 ks_203 k_1_9 k_14_127) rfl rfl rfl (by decide +kernel) ⟨by dsimp only; omega, by dsimp only; omega⟩) (zPV X hZ72 hS72 (ci := 14) (by decide) (by decide) (r := (RX14, TX14, 107)) rfl []) rfl rfl hl.1 rfl (lv_room (Nat.le_of_ble_eq_true rfl)) (D_182 W_prog_15_method_49_code_288 3 rfl rfl rfl) ⟨Nat.le_of_ble_eq_true rfl, Nat.le_of_ble_eq_true rfl⟩) hS72 (fun q _ h => zAin X hS72 q h) (zAin X hS72) (fun u78 t78 H78 locs78 ht78 hv78 hw78 hB78 hz78 hk78 hS78 => ?_)
          have hZ78 := zBack X ht78 hB78
          exact b_M_itemOfWord_294 X ho ih hf hZ78 hS78 (lv_sub hl [0, 1, 2] rfl)
        · replace hf := gpos hf h77
          refine lv_aload_n hx hb (D_42 W_prog_15_method_49_code_256 21 rfl rfl) rfl (lv_at hl 2 rfl) ?_
          refine lv_dup hx hb (D_89 W_prog_15_method_49_code_256 22 rfl rfl) rfl ?_
          refine zget (ci := 14) (C := RX14) (T := TX14) (v := .int (iI (F72 14 0 16))) (k := 16) hx hb hts inW_14 hown hK hZ72 (by decide) (by decide) rfl (by decide) k_11_14 rfl (D_180 W_prog_15_method_49_code_256 23 rfl rfl rfl) ?_
          refine lv_iconst (v := iI 1) hx hb (D_4 W_prog_15_method_49_code_256 26 rfl rfl) rfl ?_
          refine zadd hx hb (D_96 W_prog_15_method_49_code_256 27 rfl rfl) ?_
          refine zput (ci := 14) (C := RX14) (T := TX14) (k := 16) (v := ((F72 14 0 16) + 1)) (w := .int (iI ((F72 14 0 16) + 1))) hx hb hts inW_14 tyX14 tyX14_ok nmX14 hown hK hZ72 hS72 (by decide) (by decide) rfl (by decide) k_11_14 rfl (fun G h => congrArg (fun q => Value.int (iI q)) h) rfl rfl (zno (by decide)) (D_181 W_prog_15_method_49_code_256 28 rfl rfl rfl) (fun H79 locs79 hZ79 hS79 => ?_)
          refine lv_goto (tgt := 294) hx hb (D_167 W_prog_15_method_49_code_256 31 rfl rfl rfl) (by decide) ?_
          exact b_M_itemOfWord_294 X ho ih hf hZ79 hS79 (lv_sub hl [0, 1, 2] rfl)

def f_M_itemOfWord_239 (o : oT_P) (K : Nat) (s0 : Int) (F : zF) (B : zB) : zO := f_M_itemOfWord_252 o K K 0 s0 (zup3 F 14 0 16 ((F 14 0 16) + 1)) B
set_option maxHeartbeats 4000000 in
set_option maxRecDepth 100000 in
theorem b_M_itemOfWord_239 {D : va_G} {ca : Nat → ClassId} {ad : Nat → Int → Nat → Nat} {L : List Nat} {aS vS : Nat → Nat} {A : Nat → Prop} {p : Program} {l : Launch} {e : Env} {s : State} {m : MethodId} {args : Array Value} {below : List Frame} {meth : Method} {c : Code} {K : Nat} {r : Int} {F9 : zF} {B9 : zB} {d : Nat} {o : oT_P} (X : zX D ca L aS vS A p s m args meth c prog_15_method_49_code 4 (Option.none : Option Jvm.ClassFile.FieldType) "StaveHouseModel") (ho : oH_P l D ca ad L aS vS d o) {s0 : Int} {F : zF} {B : zB} {H : Heap} {locs : List Loc} {ls : Array Slot} (hf : f_M_itemOfWord_239 o K s0 F B = some (r, F9, B9)) (hZ : zH D ca ad lnM nM L F B A H) (hS : va_S A s.heap H locs) (hl : lv_has ls 4 [(0, .ref (ad 14 0 0))]) : W p l e ({ frames := d + 1 + 6, cells := 0, slots := 0, locals := 23 * (d + 1) + 110 } : Room) s m args below meth c H locs 0 0 (MQ below (Q_M_itemOfWord D ca ad L r F9 B9 A) args s 0 0 A) (F0 m 239 ls [.int (iI s0)]) := by
  obtain ⟨hx, hb, hr, hml, hown, hts, hlk, hK, hA, hL, hX⟩ := id X
  replace hf : (f_M_itemOfWord_252 o K K 0 s0 (zup3 F 14 0 16 ((F 14 0 16) + 1)) B) = some (r, F9, B9) := hf
  refine lv_istore_n (lv' := [(2, .int (iI s0)), (0, .ref (ad 14 0 0))]) hx hb (D_61 W_prog_15_method_49_code_224 15 rfl rfl) rfl hl (by decide) rfl (fun ls hl => ?_)
  refine lv_aload_n hx hb (D_42 W_prog_15_method_49_code_224 16 rfl rfl) rfl (lv_at hl 1 rfl) ?_
  refine lv_dup hx hb (D_89 W_prog_15_method_49_code_224 17 rfl rfl) rfl ?_
  refine zget (ci := 14) (C := RX14) (T := TX14) (v := .int (iI (F 14 0 16))) (k := 16) hx hb hts inW_14 hown hK hZ (by decide) (by decide) rfl (by decide) k_11_14 rfl (D_180 W_prog_15_method_49_code_224 18 rfl rfl rfl) ?_
  refine lv_iconst (v := iI 1) hx hb (D_4 W_prog_15_method_49_code_224 21 rfl rfl) rfl ?_
  refine zadd hx hb (D_96 W_prog_15_method_49_code_224 22 rfl rfl) ?_
  refine zput (ci := 14) (C := RX14) (T := TX14) (k := 16) (v := ((F 14 0 16) + 1)) (w := .int (iI ((F 14 0 16) + 1))) hx hb hts inW_14 tyX14 tyX14_ok nmX14 hown hK hZ hS (by decide) (by decide) rfl (by decide) k_11_14 rfl (fun G h => congrArg (fun q => Value.int (iI q)) h) rfl rfl (zno (by decide)) (D_181 W_prog_15_method_49_code_224 23 rfl rfl rfl) (fun H68 locs68 hZ68 hS68 => ?_)
  refine lv_iconst (v := iI 0) hx hb (D_3 W_prog_15_method_49_code_224 26 rfl rfl) rfl ?_
  refine lv_istore_n (lv' := [(3, .int (iI 0)), (2, .int (iI s0)), (0, .ref (ad 14 0 0))]) hx hb (D_62 W_prog_15_method_49_code_224 27 rfl rfl) rfl hl (by decide) rfl (fun ls hl => ?_)
  exact b_M_itemOfWord_252 X ho hf hZ68 hS68 (lv_sub hl [0, 1, 2] rfl)

def f_M_itemOfWord_224 (o : oT_P) (K : Nat)  (F : zF) (B : zB) : zO := zbind (f_M_isWord K 1836021349 F B) (fun r65 F65 B65 => if r32 r65 then (if r65 = 0 then f_M_itemOfWord_239 o K 1 F65 B65 else f_M_itemOfWord_239 o K 2 F65 B65) else none)
set_option maxHeartbeats 4000000 in
set_option maxRecDepth 100000 in
theorem b_M_itemOfWord_224 {D : va_G} {ca : Nat → ClassId} {ad : Nat → Int → Nat → Nat} {L : List Nat} {aS vS : Nat → Nat} {A : Nat → Prop} {p : Program} {l : Launch} {e : Env} {s : State} {m : MethodId} {args : Array Value} {below : List Frame} {meth : Method} {c : Code} {K : Nat} {r : Int} {F9 : zF} {B9 : zB} {d : Nat} {o : oT_P} (X : zX D ca L aS vS A p s m args meth c prog_15_method_49_code 4 (Option.none : Option Jvm.ClassFile.FieldType) "StaveHouseModel") (ho : oH_P l D ca ad L aS vS d o)  {F : zF} {B : zB} {H : Heap} {locs : List Loc} {ls : Array Slot} (hf : f_M_itemOfWord_224 o K  F B = some (r, F9, B9)) (hZ : zH D ca ad lnM nM L F B A H) (hS : va_S A s.heap H locs) (hl : lv_has ls 4 [(0, .ref (ad 14 0 0))]) : W p l e ({ frames := d + 1 + 6, cells := 0, slots := 0, locals := 23 * (d + 1) + 110 } : Room) s m args below meth c H locs 0 0 (MQ below (Q_M_itemOfWord D ca ad L r F9 B9 A) args s 0 0 A) (F0 m 224 ls []) := by
  obtain ⟨hx, hb, hr, hml, hown, hts, hlk, hK, hA, hL, hX⟩ := id X
  replace hf : (zbind (f_M_isWord K 1836021349 F B) (fun r65 F65 B65 => if r32 r65 then (if r65 = 0 then f_M_itemOfWord_239 o K 1 F65 B65 else f_M_itemOfWord_239 o K 2 F65 B65) else none)) = some (r, F9, B9) := hf
  refine lv_aload_n hx hb (D_42 W_prog_15_method_49_code_224 0 rfl rfl) rfl (lv_at hl 0 rfl) ?_
  refine va_gets hx hb (hX.2.2.2.1 _ (List.mem_of_getElem? (i := 11) rfl) :) hS hown (hts _ k_10_227) (fun _ h => h) (D_178 W_prog_15_method_49_code_224 1 rfl rfl rfl) ?_
  refine W.eq (g2 := F0 m 228 ls [.long (lI 1836021349), .ref (ad 14 0 0)]) rfl ?_
  obtain ⟨r65, F65, B65, hc65, hf⟩ := gbind hf
  refine va_calli (va_runV (As := [.long (lI 1836021349)]) (rest := []) ⟨hx, hb, hml, hown, hts⟩ (c_M_isWord (l := l) hc65) (cwV 1 hts (gdV k_14_112 k_14_114 ks_200 k_1_9 k_14_115) rfl rfl rfl (by decide +kernel) ⟨by dsimp only; omega, by dsimp only; omega⟩) (zPV X hZ hS (ci := 14) (by decide) (by decide) (r := (RX14, TX14, 107)) rfl [.long (lI 1836021349)]) rfl rfl hl.1 rfl (lv_room (Nat.le_of_ble_eq_true rfl)) (D_182 W_prog_15_method_49_code_224 4 rfl rfl rfl) ⟨Nat.le_of_ble_eq_true rfl, Nat.le_of_ble_eq_true rfl⟩) hS (fun q _ h => zAin X hS q h) (zAin X hS) (fun p65 u65 t65 H65 locs65 ht65 hv65 hw65 hB65 hz65 hk65 hS65 => ?_)
  have hZ65 := zBack X ht65 hB65
  subst hw65
  obtain ⟨g66, hf⟩ := gif hf
  refine z0eq (tgt := 238) hx hb g66 (D_153 W_prog_15_method_49_code_224 7 rfl rfl rfl) (by decide) (fun h67 => ?_) (fun h67 => ?_)
  · replace hf := gpos hf h67
    refine lv_iconst (v := iI 1) hx hb (D_4 W_prog_15_method_49_code_224 14 rfl rfl) rfl ?_
    exact b_M_itemOfWord_239 X ho hf hZ65 hS65 (lv_sub hl [0] rfl)
  · replace hf := gneg hf h67
    refine lv_iconst (v := iI 2) hx hb (D_5 W_prog_15_method_49_code_224 10 rfl rfl) rfl ?_
    refine lv_goto (tgt := 239) hx hb (D_167 W_prog_15_method_49_code_224 11 rfl rfl rfl) (by decide) ?_
    exact b_M_itemOfWord_239 X ho hf hZ65 hS65 (lv_sub hl [0] rfl)

def f_M_itemOfWord_103 (o : oT_P) (K : Nat) : Nat → zF → zB → zO
  | 0, _, _ => none
  | n + 1, F, B => zbind (f_M_good K F B) (fun r57 F57 B57 => if r32 r57 then (if r57 = 0 then f_M_itemOfWord_389 o K F57 B57 else zbind (f_M_isSign K 123 F57 B57) (fun r60 F60 B60 => if r32 r60 then (if r60 = 0 then f_M_itemOfWord_389 o K F60 B60 else zbind (o.1 F60 B60) (fun r63 F63 B63 => f_M_itemOfWord_103 o K n F63 B63)) else none)) else none)
set_option maxHeartbeats 4000000 in
set_option maxRecDepth 100000 in
theorem b_M_itemOfWord_103 {D : va_G} {ca : Nat → ClassId} {ad : Nat → Int → Nat → Nat} {L : List Nat} {aS vS : Nat → Nat} {A : Nat → Prop} {p : Program} {l : Launch} {e : Env} {s : State} {m : MethodId} {args : Array Value} {below : List Frame} {meth : Method} {c : Code} {K : Nat} {r : Int} {F9 : zF} {B9 : zB} {d : Nat} {o : oT_P} (X : zX D ca L aS vS A p s m args meth c prog_15_method_49_code 4 (Option.none : Option Jvm.ClassFile.FieldType) "StaveHouseModel") (ho : oH_P l D ca ad L aS vS d o) : ∀ {n : Nat}  {F : zF} {B : zB} {H : Heap} {locs : List Loc} {ls : Array Slot}, f_M_itemOfWord_103 o K n  F B = some (r, F9, B9) → zH D ca ad lnM nM L F B A H → va_S A s.heap H locs → lv_has ls 4 [(0, .ref (ad 14 0 0))] → W p l e ({ frames := d + 1 + 6, cells := 0, slots := 0, locals := 23 * (d + 1) + 110 } : Room) s m args below meth c H locs 0 0 (MQ below (Q_M_itemOfWord D ca ad L r F9 B9 A) args s 0 0 A) (F0 m 103 ls []) := by
  obtain ⟨hx, hb, hr, hml, hown, hts, hlk, hK, hA, hL, hX⟩ := id X
  intro n
  induction n with
  | zero =>
    intros
    rename_i hf _ _ _
    cases hf
  | succ n ih =>
    intro F B H locs ls hf hZ hS hl
    replace hf : (zbind (f_M_good K F B) (fun r57 F57 B57 => if r32 r57 then (if r57 = 0 then f_M_itemOfWord_389 o K F57 B57 else zbind (f_M_isSign K 123 F57 B57) (fun r60 F60 B60 => if r32 r60 then (if r60 = 0 then f_M_itemOfWord_389 o K F60 B60 else zbind (o.1 F60 B60) (fun r63 F63 B63 => f_M_itemOfWord_103 o K n F63 B63)) else none)) else none)) = some (r, F9, B9) := hf
    refine lv_aload_n hx hb (D_42 W_prog_15_method_49_code_96 7 rfl rfl) rfl (lv_at hl 0 rfl) ?_
    obtain ⟨r57, F57, B57, hc57, hf⟩ := gbind hf
    refine va_calli (va_runV (As := []) (rest := []) ⟨hx, hb, hml, hown, hts⟩ (c_M_good (l := l) hc57) (cwV 0 hts (gdV k_13_15 k_13_17 ks_152 k_1_9 k_13_18) rfl rfl rfl (by decide +kernel) ⟨by dsimp only; omega, by dsimp only; omega⟩) (zPV X hZ hS (ci := 14) (by decide) (by decide) (r := (RX14, TX14, 107)) rfl []) rfl rfl hl.1 rfl (lv_room (Nat.le_of_ble_eq_true rfl)) (D_182 W_prog_15_method_49_code_96 8 rfl rfl rfl) ⟨Nat.le_of_ble_eq_true rfl, Nat.le_of_ble_eq_true rfl⟩) hS (fun q _ h => zAin X hS q h) (zAin X hS) (fun p57 u57 t57 H57 locs57 ht57 hv57 hw57 hB57 hz57 hk57 hS57 => ?_)
    have hZ57 := zBack X ht57 hB57
    subst hw57
    obtain ⟨g58, hf⟩ := gif hf
    refine z0eq (tgt := 389) hx hb g58 (D_153 W_prog_15_method_49_code_96 11 rfl rfl rfl) (by decide) (fun h59 => ?_) (fun h59 => ?_)
    · replace hf := gpos hf h59
      exact b_M_itemOfWord_389 X ho hf hZ57 hS57 (lv_sub hl [] rfl)
    · replace hf := gneg hf h59
      refine lv_aload_n hx hb (D_42 W_prog_15_method_49_code_96 14 rfl rfl) rfl (lv_at hl 0 rfl) ?_
      refine lv_bipush (v := iI 123) hx hb (D_16 W_prog_15_method_49_code_96 15 rfl rfl rfl) (by decide) ?_
      obtain ⟨r60, F60, B60, hc60, hf⟩ := gbind hf
      refine va_calli (va_runV (As := [.int (iI 123)]) (rest := []) ⟨hx, hb, hml, hown, hts⟩ (c_M_isSign (l := l) hc60) (cwV 1 hts (gdV k_14_136 k_14_138 ks_206 k_1_9 k_14_139) rfl rfl rfl (by decide +kernel) ⟨by dsimp only; omega, by dsimp only; omega⟩) (zPV X hZ57 hS57 (ci := 14) (by decide) (by decide) (r := (RX14, TX14, 107)) rfl [.int (iI 123)]) rfl rfl hl.1 rfl (lv_room (Nat.le_of_ble_eq_true rfl)) (D_182 W_prog_15_method_49_code_96 17 rfl rfl rfl) ⟨Nat.le_of_ble_eq_true rfl, Nat.le_of_ble_eq_true rfl⟩) hS57 (fun q _ h => zAin X hS57 q h) (zAin X hS57) (fun p60 u60 t60 H60 locs60 ht60 hv60 hw60 hB60 hz60 hk60 hS60 => ?_)
      have hZ60 := zBack X ht60 hB60
      subst hw60
      obtain ⟨g61, hf⟩ := gif hf
      refine z0eq (tgt := 389) hx hb g61 (D_153 W_prog_15_method_49_code_96 20 rfl rfl rfl) (by decide) (fun h62 => ?_) (fun h62 => ?_)
      · replace hf := gpos hf h62
        exact b_M_itemOfWord_389 X ho hf hZ60 hS60 (lv_sub hl [] rfl)
      · replace hf := gneg hf h62
        refine lv_aload_n hx hb (D_42 W_prog_15_method_49_code_96 23 rfl rfl) rfl (lv_at hl 0 rfl) ?_
        obtain ⟨r63, F63, B63, hc63, hf⟩ := gbind hf
        refine va_callv (va_runV (As := []) (rest := []) ⟨hx, hb, hml, hown, hts⟩ (ho.1 hc63) (cwV 0 hts (gdV k_14_159 k_14_161 ks_211 k_1_9 k_14_162) rfl rfl rfl (by decide +kernel) ⟨by dsimp only; omega, by dsimp only; omega⟩) (zPV X hZ60 hS60 (ci := 14) (by decide) (by decide) (r := (RX14, TX14, 107)) rfl []) rfl rfl hl.1 rfl (lv_room (Nat.le_of_ble_eq_true rfl)) (D_182 W_prog_15_method_49_code_96 24 rfl rfl rfl) ⟨Nat.le_of_ble_eq_true rfl, Nat.le_of_ble_eq_true rfl⟩) hS60 (fun q _ h => zAin X hS60 q h) (zAin X hS60) (fun u63 t63 H63 locs63 ht63 hv63 hw63 hB63 hz63 hk63 hS63 => ?_)
        have hZ63 := zBack X ht63 hB63
        refine lv_goto (tgt := 103) hx hb (D_167 W_prog_15_method_49_code_96 27 rfl rfl rfl) (by decide) ?_
        exact ih hf hZ63 hS63 (lv_sub hl [0] rfl)

def fb_M_itemOfWord (o : oT_P) (K : Nat)  (F : zF) (B : zB) : zO := zbind (f_M_isWord K 114 F B) (fun r1 F1 B1 => if r32 r1 then (if r1 = 0 then zbind (f_M_isWord K 125780002955636 F1 B1) (fun r4 F4 B4 => if r32 r4 then (if r4 = 0 then zbind (f_M_isWord K 7697253 F4 B4) (fun r7 F7 B7 => if r32 r7 then (if r7 = 0 then zbind (f_M_isWord K 1836021349 F7 B7) (fun r10 F10 B10 => if r32 r10 then (if r10 = 0 then zbind (f_M_isWord K 120299659095922 F10 B10) (fun r13 F13 B13 => if r32 r13 then (if r13 = 0 then zbind (f_M_isWord K 1650549611 F13 B13) (fun r16 F16 B16 => if r32 r16 then (if r16 = 0 then zbind (f_M_isWord K 1936486263 F16 B16) (fun r19 F19 B19 => if r32 r19 then (if r19 = 0 then zbind (f_M_wrong K F19 B19) (fun r22 F22 B22 => f_M_itemOfWord_389 o K F22 B22) else zbind (f_M_number K 1 8 0 (zup3 F19 14 0 16 ((F19 14 0 16) + 1)) B19) (fun r24 F24 B24 => zbind (f_M_need K 47 F24 B24) (fun r25 F25 B25 => zbind (f_M_number K 1 8 0 F25 B25) (fun r26 F26 B26 => zbind (o.1 F26 B26) (fun r27 F27 B27 => f_M_itemOfWord_389 o K F27 B27))))) else none) else zbind (o.1 (zup3 F16 14 0 16 ((F16 14 0 16) + 1)) B16) (fun r29 F29 B29 => f_M_itemOfWord_389 o K F29 B29)) else none) else f_M_itemOfWord_224 o K F13 B13) else none) else f_M_itemOfWord_224 o K F10 B10) else none) else zbind (f_M_isName K (zup3 F7 14 0 16 ((F7 14 0 16) + 1)) B7) (fun r31 F31 B31 => if r32 r31 then (if r31 = 0 then zbind (f_M_wrong K F31 B31) (fun r41 F41 B41 => f_M_itemOfWord_389 o K F41 B41) else if 0 ≤ (F31 14 0 16) ∧ (F31 14 0 16) < 3001 then zbind (f_M_find K 14 0 25 (F31 14 0 27) (B31 14 0 11 (F31 14 0 16)) F31 B31) (fun r36 F36 B36 => if r32 r36 then (if 0 ≤ r36 then f_M_itemOfWord_389 o K (zup3 F36 14 0 16 ((F36 14 0 16) + 1)) B36 else zbind (f_M_fail K 4 F36 B36) (fun r40 F40 B40 => f_M_itemOfWord_389 o K F40 B40)) else none) else none) else none)) else none) else zbind (f_M_number K 2 4 0 (zup3 F4 14 0 16 ((F4 14 0 16) + 1)) B4) (fun r43 F43 B43 => zbind (o.1 F43 B43) (fun r44 F44 B44 => zbind (f_M_good K F44 B44) (fun r45 F45 B45 => if r32 r45 then (if r45 = 0 then f_M_itemOfWord_389 o K F45 B45 else zbind (f_M_isWord K 6384756 F45 B45) (fun r48 F48 B48 => if r32 r48 then (if r48 = 0 then f_M_itemOfWord_389 o K F48 B48 else zbind (o.1 (zup3 F48 14 0 16 ((F48 14 0 16) + 1)) B48) (fun r52 F52 B52 => f_M_itemOfWord_103 o K K F52 B52)) else none)) else none)))) else none) else if 0 ≤ (F 14 0 16) ∧ (F 14 0 16) < 3001 then zbind (f_M_length K (F 14 0 16) (zup3 F1 14 0 16 ((F1 14 0 16) + 1)) (zup4 B1 14 0 34 (F 14 0 16) 0)) (fun r56 F56 B56 => f_M_itemOfWord_389 o K F56 B56) else none) else none)
set_option maxHeartbeats 4000000 in
set_option maxRecDepth 100000 in
theorem cb_M_itemOfWord {l : Launch} {D : va_G} {ca : Nat → ClassId} {ad : Nat → Int → Nat → Nat} {L : List Nat} {aS vS : Nat → Nat} {sz K : Nat} {d : Nat} {o : oT_P} (ho : oH_P l D ca ad L aS vS d o)   {F F9 : zF} {B B9 : zB} {r : Int} (hf : fb_M_itemOfWord o K  F B = some (r, F9, B9)) : Met l ({ cls := "StaveHouseModel", name := "itemOfWord", desc := "()V" } : Jvm.MethodName) (Cond.code ({ cls := "StaveHouseModel", name := "itemOfWord", desc := "()V" } : Jvm.MethodName) prog_15_method_49_code 4 (Option.none : Option Jvm.ClassFile.FieldType) :: wAll) ({ frames := d + 1 + 6, cells := 0, slots := 0, locals := 23 * (d + 1) + 110 } : Room) (va_Pc [.ref (ad 14 0 0)] (zPre D ca ad lnM nM L aS vS F B sz)) (Q_M_itemOfWord D ca ad L r F9 B9 (zA L sz)) 0 0 (zA L sz) := by
  refine zMet (Qc := Q_M_itemOfWord D ca ad L r F9 B9) (lv := [(0, .ref (ad 14 0 0))]) (by decide) (Nat.le_of_ble_eq_true rfl) rfl (fun A p e s m below meth c ls X hZ hS hl => ?_)
  obtain ⟨hx, hb, hr, hml, hown, hts, hlk, hK, hA, hL, hX⟩ := id X
  replace hf : (zbind (f_M_isWord K 114 F B) (fun r1 F1 B1 => if r32 r1 then (if r1 = 0 then zbind (f_M_isWord K 125780002955636 F1 B1) (fun r4 F4 B4 => if r32 r4 then (if r4 = 0 then zbind (f_M_isWord K 7697253 F4 B4) (fun r7 F7 B7 => if r32 r7 then (if r7 = 0 then zbind (f_M_isWord K 1836021349 F7 B7) (fun r10 F10 B10 => if r32 r10 then (if r10 = 0 then zbind (f_M_isWord K 120299659095922 F10 B10) (fun r13 F13 B13 => if r32 r13 then (if r13 = 0 then zbind (f_M_isWord K 1650549611 F13 B13) (fun r16 F16 B16 => if r32 r16 then (if r16 = 0 then zbind (f_M_isWord K 1936486263 F16 B16) (fun r19 F19 B19 => if r32 r19 then (if r19 = 0 then zbind (f_M_wrong K F19 B19) (fun r22 F22 B22 => f_M_itemOfWord_389 o K F22 B22) else zbind (f_M_number K 1 8 0 (zup3 F19 14 0 16 ((F19 14 0 16) + 1)) B19) (fun r24 F24 B24 => zbind (f_M_need K 47 F24 B24) (fun r25 F25 B25 => zbind (f_M_number K 1 8 0 F25 B25) (fun r26 F26 B26 => zbind (o.1 F26 B26) (fun r27 F27 B27 => f_M_itemOfWord_389 o K F27 B27))))) else none) else zbind (o.1 (zup3 F16 14 0 16 ((F16 14 0 16) + 1)) B16) (fun r29 F29 B29 => f_M_itemOfWord_389 o K F29 B29)) else none) else f_M_itemOfWord_224 o K F13 B13) else none) else f_M_itemOfWord_224 o K F10 B10) else none) else zbind (f_M_isName K (zup3 F7 14 0 16 ((F7 14 0 16) + 1)) B7) (fun r31 F31 B31 => if r32 r31 then (if r31 = 0 then zbind (f_M_wrong K F31 B31) (fun r41 F41 B41 => f_M_itemOfWord_389 o K F41 B41) else if 0 ≤ (F31 14 0 16) ∧ (F31 14 0 16) < 3001 then zbind (f_M_find K 14 0 25 (F31 14 0 27) (B31 14 0 11 (F31 14 0 16)) F31 B31) (fun r36 F36 B36 => if r32 r36 then (if 0 ≤ r36 then f_M_itemOfWord_389 o K (zup3 F36 14 0 16 ((F36 14 0 16) + 1)) B36 else zbind (f_M_fail K 4 F36 B36) (fun r40 F40 B40 => f_M_itemOfWord_389 o K F40 B40)) else none) else none) else none)) else none) else zbind (f_M_number K 2 4 0 (zup3 F4 14 0 16 ((F4 14 0 16) + 1)) B4) (fun r43 F43 B43 => zbind (o.1 F43 B43) (fun r44 F44 B44 => zbind (f_M_good K F44 B44) (fun r45 F45 B45 => if r32 r45 then (if r45 = 0 then f_M_itemOfWord_389 o K F45 B45 else zbind (f_M_isWord K 6384756 F45 B45) (fun r48 F48 B48 => if r32 r48 then (if r48 = 0 then f_M_itemOfWord_389 o K F48 B48 else zbind (o.1 (zup3 F48 14 0 16 ((F48 14 0 16) + 1)) B48) (fun r52 F52 B52 => f_M_itemOfWord_103 o K K F52 B52)) else none)) else none)))) else none) else if 0 ≤ (F 14 0 16) ∧ (F 14 0 16) < 3001 then zbind (f_M_length K (F 14 0 16) (zup3 F1 14 0 16 ((F1 14 0 16) + 1)) (zup4 B1 14 0 34 (F 14 0 16) 0)) (fun r56 F56 B56 => f_M_itemOfWord_389 o K F56 B56) else none) else none)) = some (r, F9, B9) := hf
  refine lv_aload_n hx hb (D_42 W_prog_15_method_49_code_0 0 rfl rfl) rfl (lv_at hl 0 rfl) ?_
  refine zget (ci := 14) (C := RX14) (T := TX14) (v := .int (iI (F 14 0 16))) (k := 16) hx hb hts inW_14 hown hK hZ (by decide) (by decide) rfl (by decide) k_11_14 rfl (D_180 W_prog_15_method_49_code_0 1 rfl rfl rfl) ?_
  refine lv_istore_n (lv' := [(1, .int (iI (F 14 0 16))), (0, .ref (ad 14 0 0))]) hx hb (D_60 W_prog_15_method_49_code_0 4 rfl rfl) rfl hl (by decide) rfl (fun ls hl => ?_)
  refine lv_aload_n hx hb (D_42 W_prog_15_method_49_code_0 5 rfl rfl) rfl (lv_at hl 1 rfl) ?_
  refine va_gets hx hb (hX.2.2.2.1 _ (List.mem_of_getElem? (i := 15) rfl) :) hS hown (hts _ k_10_235) (fun _ h => h) (D_178 W_prog_15_method_49_code_0 6 rfl rfl rfl) ?_
  refine W.eq (g2 := F0 m 9 ls [.long (lI 114), .ref (ad 14 0 0)]) rfl ?_
  obtain ⟨r1, F1, B1, hc1, hf⟩ := gbind hf
  refine va_calli (va_runV (As := [.long (lI 114)]) (rest := []) ⟨hx, hb, hml, hown, hts⟩ (c_M_isWord (l := l) hc1) (cwV 1 hts (gdV k_14_112 k_14_114 ks_200 k_1_9 k_14_115) rfl rfl rfl (by decide +kernel) ⟨by dsimp only; omega, by dsimp only; omega⟩) (zPV X hZ hS (ci := 14) (by decide) (by decide) (r := (RX14, TX14, 107)) rfl [.long (lI 114)]) rfl rfl hl.1 rfl (lv_room (Nat.le_of_ble_eq_true rfl)) (D_182 W_prog_15_method_49_code_0 9 rfl rfl rfl) ⟨Nat.le_of_ble_eq_true rfl, Nat.le_of_ble_eq_true rfl⟩) hS (fun q _ h => zAin X hS q h) (zAin X hS) (fun p1 u1 t1 H1 locs1 ht1 hv1 hw1 hB1 hz1 hk1 hS1 => ?_)
  have hZ1 := zBack X ht1 hB1
  subst hw1
  obtain ⟨g2, hf⟩ := gif hf
  refine z0eq (tgt := 40) hx hb g2 (D_153 W_prog_15_method_49_code_0 12 rfl rfl rfl) (by decide) (fun h3 => ?_) (fun h3 => ?_)
  · replace hf := gpos hf h3
    refine lv_aload_n hx hb (D_42 W_prog_15_method_49_code_32 8 rfl rfl) rfl (lv_at hl 1 rfl) ?_
    refine va_gets hx hb (hX.2.2.2.1 _ (List.mem_of_getElem? (i := 8) rfl) :) hS1 hown (hts _ k_10_221) (fun _ h => h) (D_178 W_prog_15_method_49_code_32 9 rfl rfl rfl) ?_
    refine W.eq (g2 := F0 m 44 ls [.long (lI 125780002955636), .ref (ad 14 0 0)]) rfl ?_
    obtain ⟨r4, F4, B4, hc4, hf⟩ := gbind hf
    refine va_calli (va_runV (As := [.long (lI 125780002955636)]) (rest := []) ⟨hx, hb, hml, hown, hts⟩ (c_M_isWord (l := l) hc4) (cwV 1 hts (gdV k_14_112 k_14_114 ks_200 k_1_9 k_14_115) rfl rfl rfl (by decide +kernel) ⟨by dsimp only; omega, by dsimp only; omega⟩) (zPV X hZ1 hS1 (ci := 14) (by decide) (by decide) (r := (RX14, TX14, 107)) rfl [.long (lI 125780002955636)]) rfl rfl hl.1 rfl (lv_room (Nat.le_of_ble_eq_true rfl)) (D_182 W_prog_15_method_49_code_32 12 rfl rfl rfl) ⟨Nat.le_of_ble_eq_true rfl, Nat.le_of_ble_eq_true rfl⟩) hS1 (fun q _ h => zAin X hS1 q h) (zAin X hS1) (fun p4 u4 t4 H4 locs4 ht4 hv4 hw4 hB4 hz4 hk4 hS4 => ?_)
    have hZ4 := zBack X ht4 hB4
    subst hw4
    obtain ⟨g5, hf⟩ := gif hf
    refine z0eq (tgt := 126) hx hb g5 (D_153 W_prog_15_method_49_code_32 15 rfl rfl rfl) (by decide) (fun h6 => ?_) (fun h6 => ?_)
    · replace hf := gpos hf h6
      refine lv_aload_n hx hb (D_42 W_prog_15_method_49_code_96 30 rfl rfl) rfl (lv_at hl 1 rfl) ?_
      refine va_gets hx hb (hX.2.2.2.1 _ (List.mem_of_getElem? (i := 10) rfl) :) hS4 hown (hts _ k_10_225) (fun _ h => h) (D_178 W_prog_15_method_49_code_96 31 rfl rfl rfl) ?_
      refine W.eq (g2 := F0 m 130 ls [.long (lI 7697253), .ref (ad 14 0 0)]) rfl ?_
      obtain ⟨r7, F7, B7, hc7, hf⟩ := gbind hf
      refine va_calli (va_runV (As := [.long (lI 7697253)]) (rest := []) ⟨hx, hb, hml, hown, hts⟩ (c_M_isWord (l := l) hc7) (cwV 1 hts (gdV k_14_112 k_14_114 ks_200 k_1_9 k_14_115) rfl rfl rfl (by decide +kernel) ⟨by dsimp only; omega, by dsimp only; omega⟩) (zPV X hZ4 hS4 (ci := 14) (by decide) (by decide) (r := (RX14, TX14, 107)) rfl [.long (lI 7697253)]) rfl rfl hl.1 rfl (lv_room (Nat.le_of_ble_eq_true rfl)) (D_182 W_prog_15_method_49_code_128 2 rfl rfl rfl) ⟨Nat.le_of_ble_eq_true rfl, Nat.le_of_ble_eq_true rfl⟩) hS4 (fun q _ h => zAin X hS4 q h) (zAin X hS4) (fun p7 u7 t7 H7 locs7 ht7 hv7 hw7 hB7 hz7 hk7 hS7 => ?_)
      have hZ7 := zBack X ht7 hB7
      subst hw7
      obtain ⟨g8, hf⟩ := gif hf
      refine z0eq (tgt := 204) hx hb g8 (D_153 W_prog_15_method_49_code_128 5 rfl rfl rfl) (by decide) (fun h9 => ?_) (fun h9 => ?_)
      · replace hf := gpos hf h9
        refine lv_aload_n hx hb (D_42 W_prog_15_method_49_code_192 12 rfl rfl) rfl (lv_at hl 1 rfl) ?_
        refine va_gets hx hb (hX.2.2.2.1 _ (List.mem_of_getElem? (i := 11) rfl) :) hS7 hown (hts _ k_10_227) (fun _ h => h) (D_178 W_prog_15_method_49_code_192 13 rfl rfl rfl) ?_
        refine W.eq (g2 := F0 m 208 ls [.long (lI 1836021349), .ref (ad 14 0 0)]) rfl ?_
        obtain ⟨r10, F10, B10, hc10, hf⟩ := gbind hf
        refine va_calli (va_runV (As := [.long (lI 1836021349)]) (rest := []) ⟨hx, hb, hml, hown, hts⟩ (c_M_isWord (l := l) hc10) (cwV 1 hts (gdV k_14_112 k_14_114 ks_200 k_1_9 k_14_115) rfl rfl rfl (by decide +kernel) ⟨by dsimp only; omega, by dsimp only; omega⟩) (zPV X hZ7 hS7 (ci := 14) (by decide) (by decide) (r := (RX14, TX14, 107)) rfl [.long (lI 1836021349)]) rfl rfl hl.1 rfl (lv_room (Nat.le_of_ble_eq_true rfl)) (D_182 W_prog_15_method_49_code_192 16 rfl rfl rfl) ⟨Nat.le_of_ble_eq_true rfl, Nat.le_of_ble_eq_true rfl⟩) hS7 (fun q _ h => zAin X hS7 q h) (zAin X hS7) (fun p10 u10 t10 H10 locs10 ht10 hv10 hw10 hB10 hz10 hk10 hS10 => ?_)
        have hZ10 := zBack X ht10 hB10
        subst hw10
        obtain ⟨g11, hf⟩ := gif hf
        refine z0ne (tgt := 224) hx hb g11 (D_154 W_prog_15_method_49_code_192 19 rfl rfl rfl) (by decide) (fun h12 => ?_) (fun h12 => ?_)
        · replace hf := gneg hf h12
          exact b_M_itemOfWord_224 X ho hf hZ10 hS10 (lv_sub hl [1] rfl)
        · replace hf := gpos hf h12
          refine lv_aload_n hx hb (D_42 W_prog_15_method_49_code_192 22 rfl rfl) rfl (lv_at hl 1 rfl) ?_
          refine va_gets hx hb (hX.2.2.2.1 _ (List.mem_of_getElem? (i := 12) rfl) :) hS10 hown (hts _ k_10_229) (fun _ h => h) (D_178 W_prog_15_method_49_code_192 23 rfl rfl rfl) ?_
          refine W.eq (g2 := F0 m 218 ls [.long (lI 120299659095922), .ref (ad 14 0 0)]) rfl ?_
          obtain ⟨r13, F13, B13, hc13, hf⟩ := gbind hf
          refine va_calli (va_runV (As := [.long (lI 120299659095922)]) (rest := []) ⟨hx, hb, hml, hown, hts⟩ (c_M_isWord (l := l) hc13) (cwV 1 hts (gdV k_14_112 k_14_114 ks_200 k_1_9 k_14_115) rfl rfl rfl (by decide +kernel) ⟨by dsimp only; omega, by dsimp only; omega⟩) (zPV X hZ10 hS10 (ci := 14) (by decide) (by decide) (r := (RX14, TX14, 107)) rfl [.long (lI 120299659095922)]) rfl rfl hl.1 rfl (lv_room (Nat.le_of_ble_eq_true rfl)) (D_182 W_prog_15_method_49_code_192 26 rfl rfl rfl) ⟨Nat.le_of_ble_eq_true rfl, Nat.le_of_ble_eq_true rfl⟩) hS10 (fun q _ h => zAin X hS10 q h) (zAin X hS10) (fun p13 u13 t13 H13 locs13 ht13 hv13 hw13 hB13 hz13 hk13 hS13 => ?_)
          have hZ13 := zBack X ht13 hB13
          subst hw13
          obtain ⟨g14, hf⟩ := gif hf
          refine z0eq (tgt := 307) hx hb g14 (D_153 W_prog_15_method_49_code_192 29 rfl rfl rfl) (by decide) (fun h15 => ?_) (fun h15 => ?_)
          · replace hf := gpos hf h15
            refine lv_aload_n hx hb (D_42 W_prog_15_method_49_code_288 19 rfl rfl) rfl (lv_at hl 1 rfl) ?_
            refine va_gets hx hb (hX.2.2.2.1 _ (List.mem_of_getElem? (i := 13) rfl) :) hS13 hown (hts _ k_10_231) (fun _ h => h) (D_178 W_prog_15_method_49_code_288 20 rfl rfl rfl) ?_
            refine W.eq (g2 := F0 m 311 ls [.long (lI 1650549611), .ref (ad 14 0 0)]) rfl ?_
            obtain ⟨r16, F16, B16, hc16, hf⟩ := gbind hf
            refine va_calli (va_runV (As := [.long (lI 1650549611)]) (rest := []) ⟨hx, hb, hml, hown, hts⟩ (c_M_isWord (l := l) hc16) (cwV 1 hts (gdV k_14_112 k_14_114 ks_200 k_1_9 k_14_115) rfl rfl rfl (by decide +kernel) ⟨by dsimp only; omega, by dsimp only; omega⟩) (zPV X hZ13 hS13 (ci := 14) (by decide) (by decide) (r := (RX14, TX14, 107)) rfl [.long (lI 1650549611)]) rfl rfl hl.1 rfl (lv_room (Nat.le_of_ble_eq_true rfl)) (D_182 W_prog_15_method_49_code_288 23 rfl rfl rfl) ⟨Nat.le_of_ble_eq_true rfl, Nat.le_of_ble_eq_true rfl⟩) hS13 (fun q _ h => zAin X hS13 q h) (zAin X hS13) (fun p16 u16 t16 H16 locs16 ht16 hv16 hw16 hB16 hz16 hk16 hS16 => ?_)
            have hZ16 := zBack X ht16 hB16
            subst hw16
            obtain ⟨g17, hf⟩ := gif hf
            refine z0eq (tgt := 334) hx hb g17 (D_153 W_prog_15_method_49_code_288 26 rfl rfl rfl) (by decide) (fun h18 => ?_) (fun h18 => ?_)
            · replace hf := gpos hf h18
              refine lv_aload_n hx hb (D_42 W_prog_15_method_49_code_320 14 rfl rfl) rfl (lv_at hl 1 rfl) ?_
              refine va_gets hx hb (hX.2.2.2.1 _ (List.mem_of_getElem? (i := 14) rfl) :) hS16 hown (hts _ k_10_233) (fun _ h => h) (D_178 W_prog_15_method_49_code_320 15 rfl rfl rfl) ?_
              refine W.eq (g2 := F0 m 338 ls [.long (lI 1936486263), .ref (ad 14 0 0)]) rfl ?_
              obtain ⟨r19, F19, B19, hc19, hf⟩ := gbind hf
              refine va_calli (va_runV (As := [.long (lI 1936486263)]) (rest := []) ⟨hx, hb, hml, hown, hts⟩ (c_M_isWord (l := l) hc19) (cwV 1 hts (gdV k_14_112 k_14_114 ks_200 k_1_9 k_14_115) rfl rfl rfl (by decide +kernel) ⟨by dsimp only; omega, by dsimp only; omega⟩) (zPV X hZ16 hS16 (ci := 14) (by decide) (by decide) (r := (RX14, TX14, 107)) rfl [.long (lI 1936486263)]) rfl rfl hl.1 rfl (lv_room (Nat.le_of_ble_eq_true rfl)) (D_182 W_prog_15_method_49_code_320 18 rfl rfl rfl) ⟨Nat.le_of_ble_eq_true rfl, Nat.le_of_ble_eq_true rfl⟩) hS16 (fun q _ h => zAin X hS16 q h) (zAin X hS16) (fun p19 u19 t19 H19 locs19 ht19 hv19 hw19 hB19 hz19 hk19 hS19 => ?_)
              have hZ19 := zBack X ht19 hB19
              subst hw19
              obtain ⟨g20, hf⟩ := gif hf
              refine z0eq (tgt := 385) hx hb g20 (D_153 W_prog_15_method_49_code_320 21 rfl rfl rfl) (by decide) (fun h21 => ?_) (fun h21 => ?_)
              · replace hf := gpos hf h21
                refine lv_aload_n hx hb (D_42 W_prog_15_method_49_code_384 1 rfl rfl) rfl (lv_at hl 1 rfl) ?_
                obtain ⟨r22, F22, B22, hc22, hf⟩ := gbind hf
                refine va_callv (va_runV (As := []) (rest := []) ⟨hx, hb, hml, hown, hts⟩ (c_M_wrong (l := l) hc22) (cwV 0 hts (gdV k_14_124 k_14_126 ks_203 k_1_9 k_14_127) rfl rfl rfl (by decide +kernel) ⟨by dsimp only; omega, by dsimp only; omega⟩) (zPV X hZ19 hS19 (ci := 14) (by decide) (by decide) (r := (RX14, TX14, 107)) rfl []) rfl rfl hl.1 rfl (lv_room (Nat.le_of_ble_eq_true rfl)) (D_182 W_prog_15_method_49_code_384 2 rfl rfl rfl) ⟨Nat.le_of_ble_eq_true rfl, Nat.le_of_ble_eq_true rfl⟩) hS19 (fun q _ h => zAin X hS19 q h) (zAin X hS19) (fun u22 t22 H22 locs22 ht22 hv22 hw22 hB22 hz22 hk22 hS22 => ?_)
                have hZ22 := zBack X ht22 hB22
                exact b_M_itemOfWord_389 X ho hf hZ22 hS22 (lv_sub hl [] rfl)
              · replace hf := gneg hf h21
                refine lv_aload_n hx hb (D_42 W_prog_15_method_49_code_320 24 rfl rfl) rfl (lv_at hl 1 rfl) ?_
                refine lv_dup hx hb (D_89 W_prog_15_method_49_code_320 25 rfl rfl) rfl ?_
                refine zget (ci := 14) (C := RX14) (T := TX14) (v := .int (iI (F19 14 0 16))) (k := 16) hx hb hts inW_14 hown hK hZ19 (by decide) (by decide) rfl (by decide) k_11_14 rfl (D_180 W_prog_15_method_49_code_320 26 rfl rfl rfl) ?_
                refine lv_iconst (v := iI 1) hx hb (D_4 W_prog_15_method_49_code_320 29 rfl rfl) rfl ?_
                refine zadd hx hb (D_96 W_prog_15_method_49_code_320 30 rfl rfl) ?_
                refine zput (ci := 14) (C := RX14) (T := TX14) (k := 16) (v := ((F19 14 0 16) + 1)) (w := .int (iI ((F19 14 0 16) + 1))) hx hb hts inW_14 tyX14 tyX14_ok nmX14 hown hK hZ19 hS19 (by decide) (by decide) rfl (by decide) k_11_14 rfl (fun G h => congrArg (fun q => Value.int (iI q)) h) rfl rfl (zno (by decide)) (D_181 W_prog_15_method_49_code_320 31 rfl rfl rfl) (fun H23 locs23 hZ23 hS23 => ?_)
                refine lv_aload_n hx hb (D_42 W_prog_15_method_49_code_352 2 rfl rfl) rfl (lv_at hl 1 rfl) ?_
                refine lv_iconst (v := iI 1) hx hb (D_4 W_prog_15_method_49_code_352 3 rfl rfl) rfl ?_
                refine lv_bipush (v := iI 8) hx hb (D_16 W_prog_15_method_49_code_352 4 rfl rfl rfl) (by decide) ?_
                refine lv_iconst (v := iI 0) hx hb (D_3 W_prog_15_method_49_code_352 6 rfl rfl) rfl ?_
                obtain ⟨r24, F24, B24, hc24, hf⟩ := gbind hf
                refine va_calli (va_runV (As := [.int (iI 1), .int (iI 8), .int (iI 0)]) (rest := []) ⟨hx, hb, hml, hown, hts⟩ (c_M_number (l := l) hc24) (cwV 3 hts (gdV k_14_140 k_14_142 ks_207 k_1_9 k_14_143) rfl rfl rfl (by decide +kernel) ⟨by dsimp only; omega, by dsimp only; omega⟩) (zPV X hZ23 hS23 (ci := 14) (by decide) (by decide) (r := (RX14, TX14, 107)) rfl [.int (iI 1), .int (iI 8), .int (iI 0)]) rfl rfl hl.1 rfl (lv_room (Nat.le_of_ble_eq_true rfl)) (D_182 W_prog_15_method_49_code_352 7 rfl rfl rfl) ⟨Nat.le_of_ble_eq_true rfl, Nat.le_of_ble_eq_true rfl⟩) hS23 (fun q _ h => zAin X hS23 q h) (zAin X hS23) (fun p24 u24 t24 H24 locs24 ht24 hv24 hw24 hB24 hz24 hk24 hS24 => ?_)
                have hZ24 := zBack X ht24 hB24
                subst hw24
                refine lv_pop hx hb (D_87 W_prog_15_method_49_code_352 10 rfl rfl) rfl ?_
                refine lv_aload_n hx hb (D_42 W_prog_15_method_49_code_352 11 rfl rfl) rfl (lv_at hl 1 rfl) ?_
                refine lv_bipush (v := iI 47) hx hb (D_16 W_prog_15_method_49_code_352 12 rfl rfl rfl) (by decide) ?_
                obtain ⟨r25, F25, B25, hc25, hf⟩ := gbind hf
                refine va_callv (va_runV (As := [.int (iI 47)]) (rest := []) ⟨hx, hb, hml, hown, hts⟩ (c_M_need (l := l) hc25) (cwV 1 hts (gdV k_14_144 k_14_146 ks_208 k_1_9 k_14_147) rfl rfl rfl (by decide +kernel) ⟨by dsimp only; omega, by dsimp only; omega⟩) (zPV X hZ24 hS24 (ci := 14) (by decide) (by decide) (r := (RX14, TX14, 107)) rfl [.int (iI 47)]) rfl rfl hl.1 rfl (lv_room (Nat.le_of_ble_eq_true rfl)) (D_182 W_prog_15_method_49_code_352 14 rfl rfl rfl) ⟨Nat.le_of_ble_eq_true rfl, Nat.le_of_ble_eq_true rfl⟩) hS24 (fun q _ h => zAin X hS24 q h) (zAin X hS24) (fun u25 t25 H25 locs25 ht25 hv25 hw25 hB25 hz25 hk25 hS25 => ?_)
                have hZ25 := zBack X ht25 hB25
                refine lv_aload_n hx hb (D_42 W_prog_15_method_49_code_352 17 rfl rfl) rfl (lv_at hl 1 rfl) ?_
                refine lv_iconst (v := iI 1) hx hb (D_4 W_prog_15_method_49_code_352 18 rfl rfl) rfl ?_
                refine lv_bipush (v := iI 8) hx hb (D_16 W_prog_15_method_49_code_352 19 rfl rfl rfl) (by decide) ?_
                refine lv_iconst (v := iI 0) hx hb (D_3 W_prog_15_method_49_code_352 21 rfl rfl) rfl ?_
                obtain ⟨r26, F26, B26, hc26, hf⟩ := gbind hf
                refine va_calli (va_runV (As := [.int (iI 1), .int (iI 8), .int (iI 0)]) (rest := []) ⟨hx, hb, hml, hown, hts⟩ (c_M_number (l := l) hc26) (cwV 3 hts (gdV k_14_140 k_14_142 ks_207 k_1_9 k_14_143) rfl rfl rfl (by decide +kernel) ⟨by dsimp only; omega, by dsimp only; omega⟩) (zPV X hZ25 hS25 (ci := 14) (by decide) (by decide) (r := (RX14, TX14, 107)) rfl [.int (iI 1), .int (iI 8), .int (iI 0)]) rfl rfl hl.1 rfl (lv_room (Nat.le_of_ble_eq_true rfl)) (D_182 W_prog_15_method_49_code_352 22 rfl rfl rfl) ⟨Nat.le_of_ble_eq_true rfl, Nat.le_of_ble_eq_true rfl⟩) hS25 (fun q _ h => zAin X hS25 q h) (zAin X hS25) (fun p26 u26 t26 H26 locs26 ht26 hv26 hw26 hB26 hz26 hk26 hS26 => ?_)
                have hZ26 := zBack X ht26 hB26
                subst hw26
                refine lv_pop hx hb (D_87 W_prog_15_method_49_code_352 25 rfl rfl) rfl ?_
                refine lv_aload_n hx hb (D_42 W_prog_15_method_49_code_352 26 rfl rfl) rfl (lv_at hl 1 rfl) ?_
                obtain ⟨r27, F27, B27, hc27, hf⟩ := gbind hf
                refine va_callv (va_runV (As := []) (rest := []) ⟨hx, hb, hml, hown, hts⟩ (ho.1 hc27) (cwV 0 hts (gdV k_14_159 k_14_161 ks_211 k_1_9 k_14_162) rfl rfl rfl (by decide +kernel) ⟨by dsimp only; omega, by dsimp only; omega⟩) (zPV X hZ26 hS26 (ci := 14) (by decide) (by decide) (r := (RX14, TX14, 107)) rfl []) rfl rfl hl.1 rfl (lv_room (Nat.le_of_ble_eq_true rfl)) (D_182 W_prog_15_method_49_code_352 27 rfl rfl rfl) ⟨Nat.le_of_ble_eq_true rfl, Nat.le_of_ble_eq_true rfl⟩) hS26 (fun q _ h => zAin X hS26 q h) (zAin X hS26) (fun u27 t27 H27 locs27 ht27 hv27 hw27 hB27 hz27 hk27 hS27 => ?_)
                have hZ27 := zBack X ht27 hB27
                refine lv_goto (tgt := 389) hx hb (D_167 W_prog_15_method_49_code_352 30 rfl rfl rfl) (by decide) ?_
                exact b_M_itemOfWord_389 X ho hf hZ27 hS27 (lv_sub hl [] rfl)
            · replace hf := gneg hf h18
              refine lv_aload_n hx hb (D_42 W_prog_15_method_49_code_288 29 rfl rfl) rfl (lv_at hl 1 rfl) ?_
              refine lv_dup hx hb (D_89 W_prog_15_method_49_code_288 30 rfl rfl) rfl ?_
              refine zget (ci := 14) (C := RX14) (T := TX14) (v := .int (iI (F16 14 0 16))) (k := 16) hx hb hts inW_14 hown hK hZ16 (by decide) (by decide) rfl (by decide) k_11_14 rfl (D_180 W_prog_15_method_49_code_288 31 rfl rfl rfl) ?_
              refine lv_iconst (v := iI 1) hx hb (D_4 W_prog_15_method_49_code_320 2 rfl rfl) rfl ?_
              refine zadd hx hb (D_96 W_prog_15_method_49_code_320 3 rfl rfl) ?_
              refine zput (ci := 14) (C := RX14) (T := TX14) (k := 16) (v := ((F16 14 0 16) + 1)) (w := .int (iI ((F16 14 0 16) + 1))) hx hb hts inW_14 tyX14 tyX14_ok nmX14 hown hK hZ16 hS16 (by decide) (by decide) rfl (by decide) k_11_14 rfl (fun G h => congrArg (fun q => Value.int (iI q)) h) rfl rfl (zno (by decide)) (D_181 W_prog_15_method_49_code_320 4 rfl rfl rfl) (fun H28 locs28 hZ28 hS28 => ?_)
              refine lv_aload_n hx hb (D_42 W_prog_15_method_49_code_320 7 rfl rfl) rfl (lv_at hl 1 rfl) ?_
              obtain ⟨r29, F29, B29, hc29, hf⟩ := gbind hf
              refine va_callv (va_runV (As := []) (rest := []) ⟨hx, hb, hml, hown, hts⟩ (ho.1 hc29) (cwV 0 hts (gdV k_14_159 k_14_161 ks_211 k_1_9 k_14_162) rfl rfl rfl (by decide +kernel) ⟨by dsimp only; omega, by dsimp only; omega⟩) (zPV X hZ28 hS28 (ci := 14) (by decide) (by decide) (r := (RX14, TX14, 107)) rfl []) rfl rfl hl.1 rfl (lv_room (Nat.le_of_ble_eq_true rfl)) (D_182 W_prog_15_method_49_code_320 8 rfl rfl rfl) ⟨Nat.le_of_ble_eq_true rfl, Nat.le_of_ble_eq_true rfl⟩) hS28 (fun q _ h => zAin X hS28 q h) (zAin X hS28) (fun u29 t29 H29 locs29 ht29 hv29 hw29 hB29 hz29 hk29 hS29 => ?_)
              have hZ29 := zBack X ht29 hB29
              refine lv_goto (tgt := 389) hx hb (D_167 W_prog_15_method_49_code_320 11 rfl rfl rfl) (by decide) ?_
              exact b_M_itemOfWord_389 X ho hf hZ29 hS29 (lv_sub hl [] rfl)
          · replace hf := gneg hf h15
            exact b_M_itemOfWord_224 X ho hf hZ13 hS13 (lv_sub hl [1] rfl)
      · replace hf := gneg hf h9
        refine lv_aload_n hx hb (D_42 W_prog_15_method_49_code_128 8 rfl rfl) rfl (lv_at hl 1 rfl) ?_
        refine lv_dup hx hb (D_89 W_prog_15_method_49_code_128 9 rfl rfl) rfl ?_
        refine zget (ci := 14) (C := RX14) (T := TX14) (v := .int (iI (F7 14 0 16))) (k := 16) hx hb hts inW_14 hown hK hZ7 (by decide) (by decide) rfl (by decide) k_11_14 rfl (D_180 W_prog_15_method_49_code_128 10 rfl rfl rfl) ?_
        refine lv_iconst (v := iI 1) hx hb (D_4 W_prog_15_method_49_code_128 13 rfl rfl) rfl ?_
        refine zadd hx hb (D_96 W_prog_15_method_49_code_128 14 rfl rfl) ?_
        refine zput (ci := 14) (C := RX14) (T := TX14) (k := 16) (v := ((F7 14 0 16) + 1)) (w := .int (iI ((F7 14 0 16) + 1))) hx hb hts inW_14 tyX14 tyX14_ok nmX14 hown hK hZ7 hS7 (by decide) (by decide) rfl (by decide) k_11_14 rfl (fun G h => congrArg (fun q => Value.int (iI q)) h) rfl rfl (zno (by decide)) (D_181 W_prog_15_method_49_code_128 15 rfl rfl rfl) (fun H30 locs30 hZ30 hS30 => ?_)
        refine lv_aload_n hx hb (D_42 W_prog_15_method_49_code_128 18 rfl rfl) rfl (lv_at hl 1 rfl) ?_
        obtain ⟨r31, F31, B31, hc31, hf⟩ := gbind hf
        refine va_calli (va_runV (As := []) (rest := []) ⟨hx, hb, hml, hown, hts⟩ (c_M_isName (l := l) hc31) (cwV 0 hts (gdV k_14_152 k_14_154 ks_210 k_1_9 k_14_155) rfl rfl rfl (by decide +kernel) ⟨by dsimp only; omega, by dsimp only; omega⟩) (zPV X hZ30 hS30 (ci := 14) (by decide) (by decide) (r := (RX14, TX14, 107)) rfl []) rfl rfl hl.1 rfl (lv_room (Nat.le_of_ble_eq_true rfl)) (D_182 W_prog_15_method_49_code_128 19 rfl rfl rfl) ⟨Nat.le_of_ble_eq_true rfl, Nat.le_of_ble_eq_true rfl⟩) hS30 (fun q _ h => zAin X hS30 q h) (zAin X hS30) (fun p31 u31 t31 H31 locs31 ht31 hv31 hw31 hB31 hz31 hk31 hS31 => ?_)
        have hZ31 := zBack X ht31 hB31
        subst hw31
        obtain ⟨g33, hf⟩ := gif hf
        refine z0ne (tgt := 160) hx hb g33 (D_154 W_prog_15_method_49_code_128 22 rfl rfl rfl) (by decide) (fun h34 => ?_) (fun h34 => ?_)
        · replace hf := gneg hf h34
          refine lv_aload_n hx hb (D_42 W_prog_15_method_49_code_160 0 rfl rfl) rfl (lv_at hl 1 rfl) ?_
          refine zget (ci := 14) (C := RX14) (T := TX14) (v := .ref (ad 14 0 (25 + 1))) (k := 25) hx hb hts inW_14 hown hK hZ31 (by decide) (by decide) rfl (by decide) k_11_23 rfl (D_180 W_prog_15_method_49_code_160 1 rfl rfl rfl) ?_
          refine lv_aload_n hx hb (D_42 W_prog_15_method_49_code_160 4 rfl rfl) rfl (lv_at hl 1 rfl) ?_
          refine zget (ci := 14) (C := RX14) (T := TX14) (v := .int (iI (F31 14 0 27))) (k := 27) hx hb hts inW_14 hown hK hZ31 (by decide) (by decide) rfl (by decide) k_11_25 rfl (D_180 W_prog_15_method_49_code_160 5 rfl rfl rfl) ?_
          refine lv_aload_n hx hb (D_42 W_prog_15_method_49_code_160 8 rfl rfl) rfl (lv_at hl 1 rfl) ?_
          refine zget (ci := 14) (C := RX14) (T := TX14) (v := .ref (ad 14 0 (11 + 1))) (k := 11) hx hb hts inW_14 hown hK hZ31 (by decide) (by decide) rfl (by decide) k_11_9 rfl (D_180 W_prog_15_method_49_code_160 9 rfl rfl rfl) ?_
          refine lv_aload_n hx hb (D_42 W_prog_15_method_49_code_160 12 rfl rfl) rfl (lv_at hl 1 rfl) ?_
          refine zget (ci := 14) (C := RX14) (T := TX14) (v := .int (iI (F31 14 0 16))) (k := 16) hx hb hts inW_14 hown hK hZ31 (by decide) (by decide) rfl (by decide) k_11_14 rfl (D_180 W_prog_15_method_49_code_160 13 rfl rfl rfl) ?_
          obtain ⟨g35, hf⟩ := gif hf
          refine zlald (ci := 14) (k := 11) hx hb hK rfl hZ31 (by decide) (by decide) rfl (Nat.le_of_ble_eq_true rfl) g35.1 g35.2 (D_47 W_prog_15_method_49_code_160 16 rfl rfl) ?_
          obtain ⟨r36, F36, B36, hc36, hf⟩ := gbind hf
          refine va_calli (va_runS (As := [.ref (ad 14 0 (25 + 1)), .int (iI (F31 14 0 27)), .long (lI (B31 14 0 11 (F31 14 0 16)))]) (rest := []) ⟨hx, hb, hml, hown, hts⟩ (c_M_find (l := l) hc36) (va_cwS 3 hts (gdS k_14_156 k_14_157 k_1_9 k_14_158) rfl rfl rfl (by decide +kernel) ⟨by dsimp only; omega, by dsimp only; omega⟩) (zPS X hZ31 hS31 [.ref (ad 14 0 (25 + 1)), .int (iI (F31 14 0 27)), .long (lI (B31 14 0 11 (F31 14 0 16)))]) rfl rfl hl.1 rfl (lv_room (Nat.le_of_ble_eq_true rfl)) (D_184 W_prog_15_method_49_code_160 17 rfl rfl rfl) ⟨Nat.le_of_ble_eq_true rfl, Nat.le_of_ble_eq_true rfl⟩) hS31 (fun q _ h => zAin X hS31 q h) (zAin X hS31) (fun p36 u36 t36 H36 locs36 ht36 hv36 hw36 hB36 hz36 hk36 hS36 => ?_)
          have hZ36 := zBack X ht36 hB36
          subst hw36
          obtain ⟨g37, hf⟩ := gif hf
          refine z0ge (tgt := 191) hx hb g37 (D_156 W_prog_15_method_49_code_160 20 rfl rfl rfl) (by decide) (fun h38 => ?_) (fun h38 => ?_)
          · replace hf := gpos hf h38
            refine lv_aload_n hx hb (D_42 W_prog_15_method_49_code_160 31 rfl rfl) rfl (lv_at hl 1 rfl) ?_
            refine lv_dup hx hb (D_89 W_prog_15_method_49_code_192 0 rfl rfl) rfl ?_
            refine zget (ci := 14) (C := RX14) (T := TX14) (v := .int (iI (F36 14 0 16))) (k := 16) hx hb hts inW_14 hown hK hZ36 (by decide) (by decide) rfl (by decide) k_11_14 rfl (D_180 W_prog_15_method_49_code_192 1 rfl rfl rfl) ?_
            refine lv_iconst (v := iI 1) hx hb (D_4 W_prog_15_method_49_code_192 4 rfl rfl) rfl ?_
            refine zadd hx hb (D_96 W_prog_15_method_49_code_192 5 rfl rfl) ?_
            refine zput (ci := 14) (C := RX14) (T := TX14) (k := 16) (v := ((F36 14 0 16) + 1)) (w := .int (iI ((F36 14 0 16) + 1))) hx hb hts inW_14 tyX14 tyX14_ok nmX14 hown hK hZ36 hS36 (by decide) (by decide) rfl (by decide) k_11_14 rfl (fun G h => congrArg (fun q => Value.int (iI q)) h) rfl rfl (zno (by decide)) (D_181 W_prog_15_method_49_code_192 6 rfl rfl rfl) (fun H39 locs39 hZ39 hS39 => ?_)
            refine lv_goto (tgt := 389) hx hb (D_167 W_prog_15_method_49_code_192 9 rfl rfl rfl) (by decide) ?_
            exact b_M_itemOfWord_389 X ho hf hZ39 hS39 (lv_sub hl [] rfl)
          · replace hf := gneg hf h38
            refine lv_aload_n hx hb (D_42 W_prog_15_method_49_code_160 23 rfl rfl) rfl (lv_at hl 1 rfl) ?_
            refine lv_iconst (v := iI 4) hx hb (D_7 W_prog_15_method_49_code_160 24 rfl rfl) rfl ?_
            obtain ⟨r40, F40, B40, hc40, hf⟩ := gbind hf
            refine va_callv (va_runV (As := [.int (iI 4)]) (rest := []) ⟨hx, hb, hml, hown, hts⟩ (c_M_fail (l := l) hc40) (cwV 1 hts (gdV k_14_128 k_14_130 ks_204 k_1_9 k_14_131) rfl rfl rfl (by decide +kernel) ⟨by dsimp only; omega, by dsimp only; omega⟩) (zPV X hZ36 hS36 (ci := 14) (by decide) (by decide) (r := (RX14, TX14, 107)) rfl [.int (iI 4)]) rfl rfl hl.1 rfl (lv_room (Nat.le_of_ble_eq_true rfl)) (D_182 W_prog_15_method_49_code_160 25 rfl rfl rfl) ⟨Nat.le_of_ble_eq_true rfl, Nat.le_of_ble_eq_true rfl⟩) hS36 (fun q _ h => zAin X hS36 q h) (zAin X hS36) (fun u40 t40 H40 locs40 ht40 hv40 hw40 hB40 hz40 hk40 hS40 => ?_)
            have hZ40 := zBack X ht40 hB40
            refine lv_goto (tgt := 389) hx hb (D_167 W_prog_15_method_49_code_160 28 rfl rfl rfl) (by decide) ?_
            exact b_M_itemOfWord_389 X ho hf hZ40 hS40 (lv_sub hl [] rfl)
        · replace hf := gpos hf h34
          refine lv_aload_n hx hb (D_42 W_prog_15_method_49_code_128 25 rfl rfl) rfl (lv_at hl 1 rfl) ?_
          obtain ⟨r41, F41, B41, hc41, hf⟩ := gbind hf
          refine va_callv (va_runV (As := []) (rest := []) ⟨hx, hb, hml, hown, hts⟩ (c_M_wrong (l := l) hc41) (cwV 0 hts (gdV k_14_124 k_14_126 ks_203 k_1_9 k_14_127) rfl rfl rfl (by decide +kernel) ⟨by dsimp only; omega, by dsimp only; omega⟩) (zPV X hZ31 hS31 (ci := 14) (by decide) (by decide) (r := (RX14, TX14, 107)) rfl []) rfl rfl hl.1 rfl (lv_room (Nat.le_of_ble_eq_true rfl)) (D_182 W_prog_15_method_49_code_128 26 rfl rfl rfl) ⟨Nat.le_of_ble_eq_true rfl, Nat.le_of_ble_eq_true rfl⟩) hS31 (fun q _ h => zAin X hS31 q h) (zAin X hS31) (fun u41 t41 H41 locs41 ht41 hv41 hw41 hB41 hz41 hk41 hS41 => ?_)
          have hZ41 := zBack X ht41 hB41
          refine lv_goto (tgt := 389) hx hb (D_167 W_prog_15_method_49_code_128 29 rfl rfl rfl) (by decide) ?_
          exact b_M_itemOfWord_389 X ho hf hZ41 hS41 (lv_sub hl [] rfl)
    · replace hf := gneg hf h6
      refine lv_aload_n hx hb (D_42 W_prog_15_method_49_code_32 18 rfl rfl) rfl (lv_at hl 1 rfl) ?_
      refine lv_dup hx hb (D_89 W_prog_15_method_49_code_32 19 rfl rfl) rfl ?_
      refine zget (ci := 14) (C := RX14) (T := TX14) (v := .int (iI (F4 14 0 16))) (k := 16) hx hb hts inW_14 hown hK hZ4 (by decide) (by decide) rfl (by decide) k_11_14 rfl (D_180 W_prog_15_method_49_code_32 20 rfl rfl rfl) ?_
      refine lv_iconst (v := iI 1) hx hb (D_4 W_prog_15_method_49_code_32 23 rfl rfl) rfl ?_
      refine zadd hx hb (D_96 W_prog_15_method_49_code_32 24 rfl rfl) ?_
      refine zput (ci := 14) (C := RX14) (T := TX14) (k := 16) (v := ((F4 14 0 16) + 1)) (w := .int (iI ((F4 14 0 16) + 1))) hx hb hts inW_14 tyX14 tyX14_ok nmX14 hown hK hZ4 hS4 (by decide) (by decide) rfl (by decide) k_11_14 rfl (fun G h => congrArg (fun q => Value.int (iI q)) h) rfl rfl (zno (by decide)) (D_181 W_prog_15_method_49_code_32 25 rfl rfl rfl) (fun H42 locs42 hZ42 hS42 => ?_)
      refine lv_aload_n hx hb (D_42 W_prog_15_method_49_code_32 28 rfl rfl) rfl (lv_at hl 1 rfl) ?_
      refine lv_iconst (v := iI 2) hx hb (D_5 W_prog_15_method_49_code_32 29 rfl rfl) rfl ?_
      refine lv_iconst (v := iI 4) hx hb (D_7 W_prog_15_method_49_code_32 30 rfl rfl) rfl ?_
      refine lv_iconst (v := iI 0) hx hb (D_3 W_prog_15_method_49_code_32 31 rfl rfl) rfl ?_
      obtain ⟨r43, F43, B43, hc43, hf⟩ := gbind hf
      refine va_calli (va_runV (As := [.int (iI 2), .int (iI 4), .int (iI 0)]) (rest := []) ⟨hx, hb, hml, hown, hts⟩ (c_M_number (l := l) hc43) (cwV 3 hts (gdV k_14_140 k_14_142 ks_207 k_1_9 k_14_143) rfl rfl rfl (by decide +kernel) ⟨by dsimp only; omega, by dsimp only; omega⟩) (zPV X hZ42 hS42 (ci := 14) (by decide) (by decide) (r := (RX14, TX14, 107)) rfl [.int (iI 2), .int (iI 4), .int (iI 0)]) rfl rfl hl.1 rfl (lv_room (Nat.le_of_ble_eq_true rfl)) (D_182 W_prog_15_method_49_code_64 0 rfl rfl rfl) ⟨Nat.le_of_ble_eq_true rfl, Nat.le_of_ble_eq_true rfl⟩) hS42 (fun q _ h => zAin X hS42 q h) (zAin X hS42) (fun p43 u43 t43 H43 locs43 ht43 hv43 hw43 hB43 hz43 hk43 hS43 => ?_)
      have hZ43 := zBack X ht43 hB43
      subst hw43
      refine lv_pop hx hb (D_87 W_prog_15_method_49_code_64 3 rfl rfl) rfl ?_
      refine lv_aload_n hx hb (D_42 W_prog_15_method_49_code_64 4 rfl rfl) rfl (lv_at hl 1 rfl) ?_
      obtain ⟨r44, F44, B44, hc44, hf⟩ := gbind hf
      refine va_callv (va_runV (As := []) (rest := []) ⟨hx, hb, hml, hown, hts⟩ (ho.1 hc44) (cwV 0 hts (gdV k_14_159 k_14_161 ks_211 k_1_9 k_14_162) rfl rfl rfl (by decide +kernel) ⟨by dsimp only; omega, by dsimp only; omega⟩) (zPV X hZ43 hS43 (ci := 14) (by decide) (by decide) (r := (RX14, TX14, 107)) rfl []) rfl rfl hl.1 rfl (lv_room (Nat.le_of_ble_eq_true rfl)) (D_182 W_prog_15_method_49_code_64 5 rfl rfl rfl) ⟨Nat.le_of_ble_eq_true rfl, Nat.le_of_ble_eq_true rfl⟩) hS43 (fun q _ h => zAin X hS43 q h) (zAin X hS43) (fun u44 t44 H44 locs44 ht44 hv44 hw44 hB44 hz44 hk44 hS44 => ?_)
      have hZ44 := zBack X ht44 hB44
      refine lv_aload_n hx hb (D_42 W_prog_15_method_49_code_64 8 rfl rfl) rfl (lv_at hl 1 rfl) ?_
      obtain ⟨r45, F45, B45, hc45, hf⟩ := gbind hf
      refine va_calli (va_runV (As := []) (rest := []) ⟨hx, hb, hml, hown, hts⟩ (c_M_good (l := l) hc45) (cwV 0 hts (gdV k_13_15 k_13_17 ks_152 k_1_9 k_13_18) rfl rfl rfl (by decide +kernel) ⟨by dsimp only; omega, by dsimp only; omega⟩) (zPV X hZ44 hS44 (ci := 14) (by decide) (by decide) (r := (RX14, TX14, 107)) rfl []) rfl rfl hl.1 rfl (lv_room (Nat.le_of_ble_eq_true rfl)) (D_182 W_prog_15_method_49_code_64 9 rfl rfl rfl) ⟨Nat.le_of_ble_eq_true rfl, Nat.le_of_ble_eq_true rfl⟩) hS44 (fun q _ h => zAin X hS44 q h) (zAin X hS44) (fun p45 u45 t45 H45 locs45 ht45 hv45 hw45 hB45 hz45 hk45 hS45 => ?_)
      have hZ45 := zBack X ht45 hB45
      subst hw45
      obtain ⟨g46, hf⟩ := gif hf
      refine z0eq (tgt := 389) hx hb g46 (D_153 W_prog_15_method_49_code_64 12 rfl rfl rfl) (by decide) (fun h47 => ?_) (fun h47 => ?_)
      · replace hf := gpos hf h47
        exact b_M_itemOfWord_389 X ho hf hZ45 hS45 (lv_sub hl [] rfl)
      · replace hf := gneg hf h47
        refine lv_aload_n hx hb (D_42 W_prog_15_method_49_code_64 15 rfl rfl) rfl (lv_at hl 1 rfl) ?_
        refine va_gets hx hb (hX.2.2.2.1 _ (List.mem_of_getElem? (i := 9) rfl) :) hS45 hown (hts _ k_10_223) (fun _ h => h) (D_178 W_prog_15_method_49_code_64 16 rfl rfl rfl) ?_
        refine W.eq (g2 := F0 m 83 ls [.long (lI 6384756), .ref (ad 14 0 0)]) rfl ?_
        obtain ⟨r48, F48, B48, hc48, hf⟩ := gbind hf
        refine va_calli (va_runV (As := [.long (lI 6384756)]) (rest := []) ⟨hx, hb, hml, hown, hts⟩ (c_M_isWord (l := l) hc48) (cwV 1 hts (gdV k_14_112 k_14_114 ks_200 k_1_9 k_14_115) rfl rfl rfl (by decide +kernel) ⟨by dsimp only; omega, by dsimp only; omega⟩) (zPV X hZ45 hS45 (ci := 14) (by decide) (by decide) (r := (RX14, TX14, 107)) rfl [.long (lI 6384756)]) rfl rfl hl.1 rfl (lv_room (Nat.le_of_ble_eq_true rfl)) (D_182 W_prog_15_method_49_code_64 19 rfl rfl rfl) ⟨Nat.le_of_ble_eq_true rfl, Nat.le_of_ble_eq_true rfl⟩) hS45 (fun q _ h => zAin X hS45 q h) (zAin X hS45) (fun p48 u48 t48 H48 locs48 ht48 hv48 hw48 hB48 hz48 hk48 hS48 => ?_)
        have hZ48 := zBack X ht48 hB48
        subst hw48
        obtain ⟨g49, hf⟩ := gif hf
        refine z0eq (tgt := 389) hx hb g49 (D_153 W_prog_15_method_49_code_64 22 rfl rfl rfl) (by decide) (fun h50 => ?_) (fun h50 => ?_)
        · replace hf := gpos hf h50
          exact b_M_itemOfWord_389 X ho hf hZ48 hS48 (lv_sub hl [] rfl)
        · replace hf := gneg hf h50
          refine lv_aload_n hx hb (D_42 W_prog_15_method_49_code_64 25 rfl rfl) rfl (lv_at hl 1 rfl) ?_
          refine lv_dup hx hb (D_89 W_prog_15_method_49_code_64 26 rfl rfl) rfl ?_
          refine zget (ci := 14) (C := RX14) (T := TX14) (v := .int (iI (F48 14 0 16))) (k := 16) hx hb hts inW_14 hown hK hZ48 (by decide) (by decide) rfl (by decide) k_11_14 rfl (D_180 W_prog_15_method_49_code_64 27 rfl rfl rfl) ?_
          refine lv_iconst (v := iI 1) hx hb (D_4 W_prog_15_method_49_code_64 30 rfl rfl) rfl ?_
          refine zadd hx hb (D_96 W_prog_15_method_49_code_64 31 rfl rfl) ?_
          refine zput (ci := 14) (C := RX14) (T := TX14) (k := 16) (v := ((F48 14 0 16) + 1)) (w := .int (iI ((F48 14 0 16) + 1))) hx hb hts inW_14 tyX14 tyX14_ok nmX14 hown hK hZ48 hS48 (by decide) (by decide) rfl (by decide) k_11_14 rfl (fun G h => congrArg (fun q => Value.int (iI q)) h) rfl rfl (zno (by decide)) (D_181 W_prog_15_method_49_code_96 0 rfl rfl rfl) (fun H51 locs51 hZ51 hS51 => ?_)
          refine lv_aload_n hx hb (D_42 W_prog_15_method_49_code_96 3 rfl rfl) rfl (lv_at hl 1 rfl) ?_
          obtain ⟨r52, F52, B52, hc52, hf⟩ := gbind hf
          refine va_callv (va_runV (As := []) (rest := []) ⟨hx, hb, hml, hown, hts⟩ (ho.1 hc52) (cwV 0 hts (gdV k_14_159 k_14_161 ks_211 k_1_9 k_14_162) rfl rfl rfl (by decide +kernel) ⟨by dsimp only; omega, by dsimp only; omega⟩) (zPV X hZ51 hS51 (ci := 14) (by decide) (by decide) (r := (RX14, TX14, 107)) rfl []) rfl rfl hl.1 rfl (lv_room (Nat.le_of_ble_eq_true rfl)) (D_182 W_prog_15_method_49_code_96 4 rfl rfl rfl) ⟨Nat.le_of_ble_eq_true rfl, Nat.le_of_ble_eq_true rfl⟩) hS51 (fun q _ h => zAin X hS51 q h) (zAin X hS51) (fun u52 t52 H52 locs52 ht52 hv52 hw52 hB52 hz52 hk52 hS52 => ?_)
          have hZ52 := zBack X ht52 hB52
          exact b_M_itemOfWord_103 X ho hf hZ52 hS52 (lv_sub hl [1] rfl)
  · replace hf := gneg hf h3
    refine lv_aload_n hx hb (D_42 W_prog_15_method_49_code_0 15 rfl rfl) rfl (lv_at hl 1 rfl) ?_
    refine lv_dup hx hb (D_89 W_prog_15_method_49_code_0 16 rfl rfl) rfl ?_
    refine zget (ci := 14) (C := RX14) (T := TX14) (v := .int (iI (F1 14 0 16))) (k := 16) hx hb hts inW_14 hown hK hZ1 (by decide) (by decide) rfl (by decide) k_11_14 rfl (D_180 W_prog_15_method_49_code_0 17 rfl rfl rfl) ?_
    refine lv_iconst (v := iI 1) hx hb (D_4 W_prog_15_method_49_code_0 20 rfl rfl) rfl ?_
    refine zadd hx hb (D_96 W_prog_15_method_49_code_0 21 rfl rfl) ?_
    refine zput (ci := 14) (C := RX14) (T := TX14) (k := 16) (v := ((F1 14 0 16) + 1)) (w := .int (iI ((F1 14 0 16) + 1))) hx hb hts inW_14 tyX14 tyX14_ok nmX14 hown hK hZ1 hS1 (by decide) (by decide) rfl (by decide) k_11_14 rfl (fun G h => congrArg (fun q => Value.int (iI q)) h) rfl rfl (zno (by decide)) (D_181 W_prog_15_method_49_code_0 22 rfl rfl rfl) (fun H53 locs53 hZ53 hS53 => ?_)
    refine lv_aload_n hx hb (D_42 W_prog_15_method_49_code_0 25 rfl rfl) rfl (lv_at hl 1 rfl) ?_
    refine zget (ci := 14) (C := RX14) (T := TX14) (v := .ref (ad 14 0 (34 + 1))) (k := 34) hx hb hts inW_14 hown hK hZ53 (by decide) (by decide) rfl (by decide) k_11_32 rfl (D_180 W_prog_15_method_49_code_0 26 rfl rfl rfl) ?_
    refine lv_iload_n hx hb (D_27 W_prog_15_method_49_code_0 29 rfl rfl) rfl (lv_at hl 0 rfl) ?_
    refine lv_iconst (v := iI 0) hx hb (D_3 W_prog_15_method_49_code_0 30 rfl rfl) rfl ?_
    obtain ⟨g54, hf⟩ := gif hf
    refine zast (ci := 14) (k := 34) hx hb hK rfl hZ53 hS53 (by decide) (by decide) rfl (Nat.le_of_ble_eq_true rfl) g54.1 g54.2 (D_79 W_prog_15_method_49_code_0 31 rfl rfl) (fun H55 locs55 hZ55 hS55 => ?_)
    refine lv_aload_n hx hb (D_42 W_prog_15_method_49_code_32 0 rfl rfl) rfl (lv_at hl 1 rfl) ?_
    refine lv_iload_n hx hb (D_27 W_prog_15_method_49_code_32 1 rfl rfl) rfl (lv_at hl 0 rfl) ?_
    obtain ⟨r56, F56, B56, hc56, hf⟩ := gbind hf
    refine va_callv (va_runV (As := [.int (iI (F 14 0 16))]) (rest := []) ⟨hx, hb, hml, hown, hts⟩ (c_M_length (l := l) hc56) (cwV 1 hts (gdV k_14_171 k_14_173 ks_214 k_1_9 k_14_174) rfl rfl rfl (by decide +kernel) ⟨by dsimp only; omega, by dsimp only; omega⟩) (zPV X hZ55 hS55 (ci := 14) (by decide) (by decide) (r := (RX14, TX14, 107)) rfl [.int (iI (F 14 0 16))]) rfl rfl hl.1 rfl (lv_room (Nat.le_of_ble_eq_true rfl)) (D_182 W_prog_15_method_49_code_32 2 rfl rfl rfl) ⟨Nat.le_of_ble_eq_true rfl, Nat.le_of_ble_eq_true rfl⟩) hS55 (fun q _ h => zAin X hS55 q h) (zAin X hS55) (fun u56 t56 H56 locs56 ht56 hv56 hw56 hB56 hz56 hk56 hS56 => ?_)
    have hZ56 := zBack X ht56 hB56
    refine lv_goto (tgt := 389) hx hb (D_167 W_prog_15_method_49_code_32 5 rfl rfl rfl) (by decide) ?_
    exact b_M_itemOfWord_389 X ho hf hZ56 hS56 (lv_sub hl [] rfl)

def gr_P (K : Nat) : Nat → oT_P
  | 0 => (fun _ _ => none, fun _ _ => none, fun _ _ => none, fun _ _ => none)
  | d + 1 => (fun F B => fb_M_block (gr_P K d) K F B, fun F B => fb_M_item (gr_P K d) K F B, fun F B => fb_M_tuplet (gr_P K d) K F B, fun F B => fb_M_itemOfWord (gr_P K d) K F B)
theorem gh_P {l : Launch} {D : va_G} {ca : Nat → ClassId} {ad : Nat → Int → Nat → Nat} {L : List Nat} {aS vS : Nat → Nat} {K : Nat} : ∀ d, oH_P l D ca ad L aS vS d (gr_P K d) := by
  intro d
  induction d with
  | zero => exact ⟨(fun hf => by cases hf), (fun hf => by cases hf), (fun hf => by cases hf), (fun hf => by cases hf)⟩
  | succ d ih => exact ⟨(fun hf => cb_M_block ih hf), (fun hf => cb_M_item ih hf), (fun hf => cb_M_tuplet ih hf), (fun hf => cb_M_itemOfWord ih hf)⟩
def f_M_block (K : Nat)  (F : zF) (B : zB) : zO := (gr_P K 40).1  F B
theorem c_M_block {l : Launch} {D : va_G} {ca : Nat → ClassId} {ad : Nat → Int → Nat → Nat} {L : List Nat} {aS vS : Nat → Nat} {sz K : Nat}  {F F9 : zF} {B B9 : zB} {r : Int} (hf : f_M_block K  F B = some (r, F9, B9)) : Met l ({ cls := "StaveHouseModel", name := "block", desc := "()V" } : Jvm.MethodName) (Cond.code ({ cls := "StaveHouseModel", name := "block", desc := "()V" } : Jvm.MethodName) prog_15_method_45_code 2 (Option.none : Option Jvm.ClassFile.FieldType) :: wAll) ({ frames := 46, cells := 0, slots := 0, locals := 1030 } : Room) (va_Pc [.ref (ad 14 0 0)] (zPre D ca ad lnM nM L aS vS F B sz)) (Q_M_block D ca ad L r F9 B9 (zA L sz)) 0 0 (zA L sz) := (gh_P 40).1 hf
def f_M_item (K : Nat)  (F : zF) (B : zB) : zO := (gr_P K 40).2.1  F B
theorem c_M_item {l : Launch} {D : va_G} {ca : Nat → ClassId} {ad : Nat → Int → Nat → Nat} {L : List Nat} {aS vS : Nat → Nat} {sz K : Nat}  {F F9 : zF} {B B9 : zB} {r : Int} (hf : f_M_item K  F B = some (r, F9, B9)) : Met l ({ cls := "StaveHouseModel", name := "item", desc := "()V" } : Jvm.MethodName) (Cond.code ({ cls := "StaveHouseModel", name := "item", desc := "()V" } : Jvm.MethodName) prog_15_method_46_code 2 (Option.none : Option Jvm.ClassFile.FieldType) :: wAll) ({ frames := 46, cells := 0, slots := 0, locals := 1030 } : Room) (va_Pc [.ref (ad 14 0 0)] (zPre D ca ad lnM nM L aS vS F B sz)) (Q_M_item D ca ad L r F9 B9 (zA L sz)) 0 0 (zA L sz) := (gh_P 40).2.1 hf
def f_M_tuplet (K : Nat)  (F : zF) (B : zB) : zO := (gr_P K 40).2.2.1  F B
theorem c_M_tuplet {l : Launch} {D : va_G} {ca : Nat → ClassId} {ad : Nat → Int → Nat → Nat} {L : List Nat} {aS vS : Nat → Nat} {sz K : Nat}  {F F9 : zF} {B B9 : zB} {r : Int} (hf : f_M_tuplet K  F B = some (r, F9, B9)) : Met l ({ cls := "StaveHouseModel", name := "tuplet", desc := "()V" } : Jvm.MethodName) (Cond.code ({ cls := "StaveHouseModel", name := "tuplet", desc := "()V" } : Jvm.MethodName) prog_15_method_48_code 2 (Option.none : Option Jvm.ClassFile.FieldType) :: wAll) ({ frames := 46, cells := 0, slots := 0, locals := 1030 } : Room) (va_Pc [.ref (ad 14 0 0)] (zPre D ca ad lnM nM L aS vS F B sz)) (Q_M_tuplet D ca ad L r F9 B9 (zA L sz)) 0 0 (zA L sz) := (gh_P 40).2.2.1 hf
def f_M_itemOfWord (K : Nat)  (F : zF) (B : zB) : zO := (gr_P K 40).2.2.2  F B
theorem c_M_itemOfWord {l : Launch} {D : va_G} {ca : Nat → ClassId} {ad : Nat → Int → Nat → Nat} {L : List Nat} {aS vS : Nat → Nat} {sz K : Nat}  {F F9 : zF} {B B9 : zB} {r : Int} (hf : f_M_itemOfWord K  F B = some (r, F9, B9)) : Met l ({ cls := "StaveHouseModel", name := "itemOfWord", desc := "()V" } : Jvm.MethodName) (Cond.code ({ cls := "StaveHouseModel", name := "itemOfWord", desc := "()V" } : Jvm.MethodName) prog_15_method_49_code 4 (Option.none : Option Jvm.ClassFile.FieldType) :: wAll) ({ frames := 46, cells := 0, slots := 0, locals := 1030 } : Room) (va_Pc [.ref (ad 14 0 0)] (zPre D ca ad lnM nM L aS vS F B sz)) (Q_M_itemOfWord D ca ad L r F9 B9 (zA L sz)) 0 0 (zA L sz) := (gh_P 40).2.2.2 hf
abbrev Q_M_headLet (D : va_G) (ca : Nat → ClassId) (ad : Nat → Int → Nat → Nat) (L : List Nat) (r : Int) (F : zF) (B : zB) (A : Nat → Prop) : Array Value → State → Outcome → State → Prop := va_Qv (S := Unit) (fun _ => True) (fun _ => zPo D ca ad lnM nM L F B A) A
def f_M_headLet_66 (K : Nat)  (F : zF) (B : zB) : zO := zbind (f_M_good K F B) (fun r14 F14 B14 => if r32 r14 then (if r14 = 0 then some (0, F14, B14) else if 0 ≤ (F14 14 0 16) ∧ (F14 14 0 16) < 3001 then if 0 ≤ (F14 14 0 27) ∧ (F14 14 0 27) < 6 then zbind (f_M_need K 61 (zup3 F14 14 0 16 ((F14 14 0 16) + 1)) (zup4 B14 14 0 25 (F14 14 0 27) (B14 14 0 11 (F14 14 0 16)))) (fun r21 F21 B21 => if 0 ≤ (F21 14 0 27) ∧ (F21 14 0 27) < 6 then zbind (f_M_block K (zup3 (zup3 F21 14 0 20 4) 14 0 21 0) (zup4 B21 14 0 26 (F21 14 0 27) (F21 14 0 16))) (fun r26 F26 B26 => some (0, (zup3 F26 14 0 27 ((F26 14 0 27) + 1)), B26)) else none) else none else none) else none)
set_option maxHeartbeats 4000000 in
set_option maxRecDepth 100000 in
theorem b_M_headLet_66 {D : va_G} {ca : Nat → ClassId} {ad : Nat → Int → Nat → Nat} {L : List Nat} {aS vS : Nat → Nat} {A : Nat → Prop} {p : Program} {l : Launch} {e : Env} {s : State} {m : MethodId} {args : Array Value} {below : List Frame} {meth : Method} {c : Code} {K : Nat} {r : Int} {F9 : zF} {B9 : zB} (X : zX D ca L aS vS A p s m args meth c prog_15_method_43_code 1 (Option.none : Option Jvm.ClassFile.FieldType) "StaveHouseModel")  {F : zF} {B : zB} {H : Heap} {locs : List Loc} {ls : Array Slot} (hf : f_M_headLet_66 K  F B = some (r, F9, B9)) (hZ : zH D ca ad lnM nM L F B A H) (hS : va_S A s.heap H locs) (hl : lv_has ls 1 [(0, .ref (ad 14 0 0))]) : W p l e ({ frames := 47, cells := 0, slots := 0, locals := 1051 } : Room) s m args below meth c H locs 0 0 (MQ below (Q_M_headLet D ca ad L r F9 B9 A) args s 0 0 A) (F0 m 66 ls []) := by
  obtain ⟨hx, hb, hr, hml, hown, hts, hlk, hK, hA, hL, hX⟩ := id X
  replace hf : (zbind (f_M_good K F B) (fun r14 F14 B14 => if r32 r14 then (if r14 = 0 then some (0, F14, B14) else if 0 ≤ (F14 14 0 16) ∧ (F14 14 0 16) < 3001 then if 0 ≤ (F14 14 0 27) ∧ (F14 14 0 27) < 6 then zbind (f_M_need K 61 (zup3 F14 14 0 16 ((F14 14 0 16) + 1)) (zup4 B14 14 0 25 (F14 14 0 27) (B14 14 0 11 (F14 14 0 16)))) (fun r21 F21 B21 => if 0 ≤ (F21 14 0 27) ∧ (F21 14 0 27) < 6 then zbind (f_M_block K (zup3 (zup3 F21 14 0 20 4) 14 0 21 0) (zup4 B21 14 0 26 (F21 14 0 27) (F21 14 0 16))) (fun r26 F26 B26 => some (0, (zup3 F26 14 0 27 ((F26 14 0 27) + 1)), B26)) else none) else none else none) else none)) = some (r, F9, B9) := hf
  refine lv_aload_n hx hb (D_42 W_prog_15_method_43_code_64 2 rfl rfl) rfl (lv_at hl 0 rfl) ?_
  obtain ⟨r14, F14, B14, hc14, hf⟩ := gbind hf
  refine va_calli (va_runV (As := []) (rest := []) ⟨hx, hb, hml, hown, hts⟩ (c_M_good (l := l) hc14) (cwV 0 hts (gdV k_13_15 k_13_17 ks_152 k_1_9 k_13_18) rfl rfl rfl (by decide +kernel) ⟨Nat.le_of_ble_eq_true rfl, Nat.le_of_ble_eq_true rfl⟩) (zPV X hZ hS (ci := 14) (by decide) (by decide) (r := (RX14, TX14, 107)) rfl []) rfl rfl hl.1 rfl (lv_room (Nat.le_of_ble_eq_true rfl)) (D_182 W_prog_15_method_43_code_64 3 rfl rfl rfl) ⟨Nat.le_of_ble_eq_true rfl, Nat.le_of_ble_eq_true rfl⟩) hS (fun q _ h => zAin X hS q h) (zAin X hS) (fun p14 u14 t14 H14 locs14 ht14 hv14 hw14 hB14 hz14 hk14 hS14 => ?_)
  have hZ14 := zBack X ht14 hB14
  subst hw14
  obtain ⟨g15, hf⟩ := gif hf
  refine z0ne (tgt := 74) hx hb g15 (D_154 W_prog_15_method_43_code_64 6 rfl rfl rfl) (by decide) (fun h16 => ?_) (fun h16 => ?_)
  · replace hf := gneg hf h16
    refine lv_aload_n hx hb (D_42 W_prog_15_method_43_code_64 10 rfl rfl) rfl (lv_at hl 0 rfl) ?_
    refine zget (ci := 14) (C := RX14) (T := TX14) (v := .ref (ad 14 0 (25 + 1))) (k := 25) hx hb hts inW_14 hown hK hZ14 (by decide) (by decide) rfl (by decide) k_11_23 rfl (D_180 W_prog_15_method_43_code_64 11 rfl rfl rfl) ?_
    refine lv_aload_n hx hb (D_42 W_prog_15_method_43_code_64 14 rfl rfl) rfl (lv_at hl 0 rfl) ?_
    refine zget (ci := 14) (C := RX14) (T := TX14) (v := .int (iI (F14 14 0 27))) (k := 27) hx hb hts inW_14 hown hK hZ14 (by decide) (by decide) rfl (by decide) k_11_25 rfl (D_180 W_prog_15_method_43_code_64 15 rfl rfl rfl) ?_
    refine lv_aload_n hx hb (D_42 W_prog_15_method_43_code_64 18 rfl rfl) rfl (lv_at hl 0 rfl) ?_
    refine zget (ci := 14) (C := RX14) (T := TX14) (v := .ref (ad 14 0 (11 + 1))) (k := 11) hx hb hts inW_14 hown hK hZ14 (by decide) (by decide) rfl (by decide) k_11_9 rfl (D_180 W_prog_15_method_43_code_64 19 rfl rfl rfl) ?_
    refine lv_aload_n hx hb (D_42 W_prog_15_method_43_code_64 22 rfl rfl) rfl (lv_at hl 0 rfl) ?_
    refine zget (ci := 14) (C := RX14) (T := TX14) (v := .int (iI (F14 14 0 16))) (k := 16) hx hb hts inW_14 hown hK hZ14 (by decide) (by decide) rfl (by decide) k_11_14 rfl (D_180 W_prog_15_method_43_code_64 23 rfl rfl rfl) ?_
    obtain ⟨g17, hf⟩ := gif hf
    refine zlald (ci := 14) (k := 11) hx hb hK rfl hZ14 (by decide) (by decide) rfl (Nat.le_of_ble_eq_true rfl) g17.1 g17.2 (D_47 W_prog_15_method_43_code_64 26 rfl rfl) ?_
    obtain ⟨g18, hf⟩ := gif hf
    refine zlast (ci := 14) (k := 25) hx hb hK rfl hZ14 hS14 (by decide) (by decide) rfl (Nat.le_of_ble_eq_true rfl) g18.1 g18.2 (D_80 W_prog_15_method_43_code_64 27 rfl rfl) (fun H19 locs19 hZ19 hS19 => ?_)
    refine lv_aload_n hx hb (D_42 W_prog_15_method_43_code_64 28 rfl rfl) rfl (lv_at hl 0 rfl) ?_
    refine lv_dup hx hb (D_89 W_prog_15_method_43_code_64 29 rfl rfl) rfl ?_
    refine zget (ci := 14) (C := RX14) (T := TX14) (v := .int (iI (F14 14 0 16))) (k := 16) hx hb hts inW_14 hown hK hZ19 (by decide) (by decide) rfl (by decide) k_11_14 rfl (D_180 W_prog_15_method_43_code_64 30 rfl rfl rfl) ?_
    refine lv_iconst (v := iI 1) hx hb (D_4 W_prog_15_method_43_code_96 1 rfl rfl) rfl ?_
    refine zadd hx hb (D_96 W_prog_15_method_43_code_96 2 rfl rfl) ?_
    refine zput (ci := 14) (C := RX14) (T := TX14) (k := 16) (v := ((F14 14 0 16) + 1)) (w := .int (iI ((F14 14 0 16) + 1))) hx hb hts inW_14 tyX14 tyX14_ok nmX14 hown hK hZ19 hS19 (by decide) (by decide) rfl (by decide) k_11_14 rfl (fun G h => congrArg (fun q => Value.int (iI q)) h) rfl rfl (zno (by decide)) (D_181 W_prog_15_method_43_code_96 3 rfl rfl rfl) (fun H20 locs20 hZ20 hS20 => ?_)
    refine lv_aload_n hx hb (D_42 W_prog_15_method_43_code_96 6 rfl rfl) rfl (lv_at hl 0 rfl) ?_
    refine lv_bipush (v := iI 61) hx hb (D_16 W_prog_15_method_43_code_96 7 rfl rfl rfl) (by decide) ?_
    obtain ⟨r21, F21, B21, hc21, hf⟩ := gbind hf
    refine va_callv (va_runV (As := [.int (iI 61)]) (rest := []) ⟨hx, hb, hml, hown, hts⟩ (c_M_need (l := l) hc21) (cwV 1 hts (gdV k_14_144 k_14_146 ks_208 k_1_9 k_14_147) rfl rfl rfl (by decide +kernel) ⟨Nat.le_of_ble_eq_true rfl, Nat.le_of_ble_eq_true rfl⟩) (zPV X hZ20 hS20 (ci := 14) (by decide) (by decide) (r := (RX14, TX14, 107)) rfl [.int (iI 61)]) rfl rfl hl.1 rfl (lv_room (Nat.le_of_ble_eq_true rfl)) (D_182 W_prog_15_method_43_code_96 9 rfl rfl rfl) ⟨Nat.le_of_ble_eq_true rfl, Nat.le_of_ble_eq_true rfl⟩) hS20 (fun q _ h => zAin X hS20 q h) (zAin X hS20) (fun u21 t21 H21 locs21 ht21 hv21 hw21 hB21 hz21 hk21 hS21 => ?_)
    have hZ21 := zBack X ht21 hB21
    refine lv_aload_n hx hb (D_42 W_prog_15_method_43_code_96 12 rfl rfl) rfl (lv_at hl 0 rfl) ?_
    refine zget (ci := 14) (C := RX14) (T := TX14) (v := .ref (ad 14 0 (26 + 1))) (k := 26) hx hb hts inW_14 hown hK hZ21 (by decide) (by decide) rfl (by decide) k_11_24 rfl (D_180 W_prog_15_method_43_code_96 13 rfl rfl rfl) ?_
    refine lv_aload_n hx hb (D_42 W_prog_15_method_43_code_96 16 rfl rfl) rfl (lv_at hl 0 rfl) ?_
    refine zget (ci := 14) (C := RX14) (T := TX14) (v := .int (iI (F21 14 0 27))) (k := 27) hx hb hts inW_14 hown hK hZ21 (by decide) (by decide) rfl (by decide) k_11_25 rfl (D_180 W_prog_15_method_43_code_96 17 rfl rfl rfl) ?_
    refine lv_aload_n hx hb (D_42 W_prog_15_method_43_code_96 20 rfl rfl) rfl (lv_at hl 0 rfl) ?_
    refine zget (ci := 14) (C := RX14) (T := TX14) (v := .int (iI (F21 14 0 16))) (k := 16) hx hb hts inW_14 hown hK hZ21 (by decide) (by decide) rfl (by decide) k_11_14 rfl (D_180 W_prog_15_method_43_code_96 21 rfl rfl rfl) ?_
    obtain ⟨g22, hf⟩ := gif hf
    refine zast (ci := 14) (k := 26) hx hb hK rfl hZ21 hS21 (by decide) (by decide) rfl (Nat.le_of_ble_eq_true rfl) g22.1 g22.2 (D_79 W_prog_15_method_43_code_96 24 rfl rfl) (fun H23 locs23 hZ23 hS23 => ?_)
    refine lv_aload_n hx hb (D_42 W_prog_15_method_43_code_96 25 rfl rfl) rfl (lv_at hl 0 rfl) ?_
    refine lv_iconst (v := iI 4) hx hb (D_7 W_prog_15_method_43_code_96 26 rfl rfl) rfl ?_
    refine zput (ci := 14) (C := RX14) (T := TX14) (k := 20) (v := 4) (w := .int (iI 4)) hx hb hts inW_14 tyX14 tyX14_ok nmX14 hown hK hZ23 hS23 (by decide) (by decide) rfl (by decide) k_11_18 rfl (fun G h => congrArg (fun q => Value.int (iI q)) h) rfl rfl (zno (by decide)) (D_181 W_prog_15_method_43_code_96 27 rfl rfl rfl) (fun H24 locs24 hZ24 hS24 => ?_)
    refine lv_aload_n hx hb (D_42 W_prog_15_method_43_code_96 30 rfl rfl) rfl (lv_at hl 0 rfl) ?_
    refine lv_iconst (v := iI 0) hx hb (D_3 W_prog_15_method_43_code_96 31 rfl rfl) rfl ?_
    refine zput (ci := 14) (C := RX14) (T := TX14) (k := 21) (v := 0) (w := .int (iI 0)) hx hb hts inW_14 tyX14 tyX14_ok nmX14 hown hK hZ24 hS24 (by decide) (by decide) rfl (by decide) k_11_19 rfl (fun G h => congrArg (fun q => Value.int (iI q)) h) rfl rfl (zno (by decide)) (D_181 W_prog_15_method_43_code_128 0 rfl rfl rfl) (fun H25 locs25 hZ25 hS25 => ?_)
    refine lv_aload_n hx hb (D_42 W_prog_15_method_43_code_128 3 rfl rfl) rfl (lv_at hl 0 rfl) ?_
    obtain ⟨r26, F26, B26, hc26, hf⟩ := gbind hf
    refine va_callv (va_runV (As := []) (rest := []) ⟨hx, hb, hml, hown, hts⟩ (c_M_block (l := l) hc26) (cwV 0 hts (gdV k_14_159 k_14_161 ks_211 k_1_9 k_14_162) rfl rfl rfl (by decide +kernel) ⟨Nat.le_of_ble_eq_true rfl, Nat.le_of_ble_eq_true rfl⟩) (zPV X hZ25 hS25 (ci := 14) (by decide) (by decide) (r := (RX14, TX14, 107)) rfl []) rfl rfl hl.1 rfl (lv_room (Nat.le_of_ble_eq_true rfl)) (D_182 W_prog_15_method_43_code_128 4 rfl rfl rfl) ⟨Nat.le_of_ble_eq_true rfl, Nat.le_of_ble_eq_true rfl⟩) hS25 (fun q _ h => zAin X hS25 q h) (zAin X hS25) (fun u26 t26 H26 locs26 ht26 hv26 hw26 hB26 hz26 hk26 hS26 => ?_)
    have hZ26 := zBack X ht26 hB26
    refine lv_aload_n hx hb (D_42 W_prog_15_method_43_code_128 7 rfl rfl) rfl (lv_at hl 0 rfl) ?_
    refine lv_dup hx hb (D_89 W_prog_15_method_43_code_128 8 rfl rfl) rfl ?_
    refine zget (ci := 14) (C := RX14) (T := TX14) (v := .int (iI (F26 14 0 27))) (k := 27) hx hb hts inW_14 hown hK hZ26 (by decide) (by decide) rfl (by decide) k_11_25 rfl (D_180 W_prog_15_method_43_code_128 9 rfl rfl rfl) ?_
    refine lv_iconst (v := iI 1) hx hb (D_4 W_prog_15_method_43_code_128 12 rfl rfl) rfl ?_
    refine zadd hx hb (D_96 W_prog_15_method_43_code_128 13 rfl rfl) ?_
    refine zput (ci := 14) (C := RX14) (T := TX14) (k := 27) (v := ((F26 14 0 27) + 1)) (w := .int (iI ((F26 14 0 27) + 1))) hx hb hts inW_14 tyX14 tyX14_ok nmX14 hown hK hZ26 hS26 (by decide) (by decide) rfl (by decide) k_11_25 rfl (fun G h => congrArg (fun q => Value.int (iI q)) h) rfl rfl (zno (by decide)) (D_181 W_prog_15_method_43_code_128 14 rfl rfl rfl) (fun H27 locs27 hZ27 hS27 => ?_)
    cases hf
    exact W.vret hx hb hr (fun t ht hW => ⟨⟨(), rfl, trivial, by rw [ht]; exact hZ27, va_K.moved hW.alike hK⟩, hS27.F ht⟩) hS27.2.2 (D_177 W_prog_15_method_43_code_128 17 rfl rfl) hlk
  · replace hf := gpos hf h16
    cases hf
    exact W.vret hx hb hr (fun t ht hW => ⟨⟨(), rfl, trivial, by rw [ht]; exact hZ14, va_K.moved hW.alike hK⟩, hS14.F ht⟩) hS14.2.2 (D_177 W_prog_15_method_43_code_64 9 rfl rfl) hlk

def f_M_headLet (K : Nat)  (F : zF) (B : zB) : zO := if r32 (F 14 0 27) then (if (F 14 0 27) = 6 then zbind (f_M_wrong K F B) (fun r13 F13 B13 => some (0, F13, B13)) else zbind (f_M_isName K (zup3 F 14 0 16 ((F 14 0 16) + 1)) B) (fun r4 F4 B4 => if r32 r4 then (if r4 = 0 then zbind (f_M_wrong K F4 B4) (fun r12 F12 B12 => f_M_headLet_66 K F12 B12) else if 0 ≤ (F4 14 0 16) ∧ (F4 14 0 16) < 3001 then zbind (f_M_find K 14 0 25 (F4 14 0 27) (B4 14 0 11 (F4 14 0 16)) F4 B4) (fun r8 F8 B8 => if r32 r8 then (if r8 < 0 then f_M_headLet_66 K F8 B8 else zbind (f_M_fail K 4 F8 B8) (fun r11 F11 B11 => f_M_headLet_66 K F11 B11)) else none) else none) else none)) else none
set_option maxHeartbeats 4000000 in
set_option maxRecDepth 100000 in
theorem c_M_headLet {l : Launch} {D : va_G} {ca : Nat → ClassId} {ad : Nat → Int → Nat → Nat} {L : List Nat} {aS vS : Nat → Nat} {sz K : Nat}   {F F9 : zF} {B B9 : zB} {r : Int} (hf : f_M_headLet K  F B = some (r, F9, B9)) : Met l ({ cls := "StaveHouseModel", name := "headLet", desc := "()V" } : Jvm.MethodName) (Cond.code ({ cls := "StaveHouseModel", name := "headLet", desc := "()V" } : Jvm.MethodName) prog_15_method_43_code 1 (Option.none : Option Jvm.ClassFile.FieldType) :: wAll) ({ frames := 47, cells := 0, slots := 0, locals := 1051 } : Room) (va_Pc [.ref (ad 14 0 0)] (zPre D ca ad lnM nM L aS vS F B sz)) (Q_M_headLet D ca ad L r F9 B9 (zA L sz)) 0 0 (zA L sz) := by
  refine zMet (Qc := Q_M_headLet D ca ad L r F9 B9) (lv := [(0, .ref (ad 14 0 0))]) (by decide) (Nat.le_of_ble_eq_true rfl) rfl (fun A p e s m below meth c ls X hZ hS hl => ?_)
  obtain ⟨hx, hb, hr, hml, hown, hts, hlk, hK, hA, hL, hX⟩ := id X
  replace hf : (if r32 (F 14 0 27) then (if (F 14 0 27) = 6 then zbind (f_M_wrong K F B) (fun r13 F13 B13 => some (0, F13, B13)) else zbind (f_M_isName K (zup3 F 14 0 16 ((F 14 0 16) + 1)) B) (fun r4 F4 B4 => if r32 r4 then (if r4 = 0 then zbind (f_M_wrong K F4 B4) (fun r12 F12 B12 => f_M_headLet_66 K F12 B12) else if 0 ≤ (F4 14 0 16) ∧ (F4 14 0 16) < 3001 then zbind (f_M_find K 14 0 25 (F4 14 0 27) (B4 14 0 11 (F4 14 0 16)) F4 B4) (fun r8 F8 B8 => if r32 r8 then (if r8 < 0 then f_M_headLet_66 K F8 B8 else zbind (f_M_fail K 4 F8 B8) (fun r11 F11 B11 => f_M_headLet_66 K F11 B11)) else none) else none) else none)) else none) = some (r, F9, B9) := hf
  refine lv_aload_n hx hb (D_42 W_prog_15_method_43_code_0 0 rfl rfl) rfl (lv_at hl 0 rfl) ?_
  refine zget (ci := 14) (C := RX14) (T := TX14) (v := .int (iI (F 14 0 27))) (k := 27) hx hb hts inW_14 hown hK hZ (by decide) (by decide) rfl (by decide) k_11_25 rfl (D_180 W_prog_15_method_43_code_0 1 rfl rfl rfl) ?_
  refine lv_bipush (v := iI 6) hx hb (D_16 W_prog_15_method_43_code_0 4 rfl rfl rfl) (by decide) ?_
  obtain ⟨g1, hf⟩ := gif hf
  refine zne (tgt := 14) hx hb g1 (by decide) (D_160 W_prog_15_method_43_code_0 6 rfl rfl rfl) (by decide) (fun h2 => ?_) (fun h2 => ?_)
  · replace hf := gneg hf h2
    refine lv_aload_n hx hb (D_42 W_prog_15_method_43_code_0 14 rfl rfl) rfl (lv_at hl 0 rfl) ?_
    refine lv_dup hx hb (D_89 W_prog_15_method_43_code_0 15 rfl rfl) rfl ?_
    refine zget (ci := 14) (C := RX14) (T := TX14) (v := .int (iI (F 14 0 16))) (k := 16) hx hb hts inW_14 hown hK hZ (by decide) (by decide) rfl (by decide) k_11_14 rfl (D_180 W_prog_15_method_43_code_0 16 rfl rfl rfl) ?_
    refine lv_iconst (v := iI 1) hx hb (D_4 W_prog_15_method_43_code_0 19 rfl rfl) rfl ?_
    refine zadd hx hb (D_96 W_prog_15_method_43_code_0 20 rfl rfl) ?_
    refine zput (ci := 14) (C := RX14) (T := TX14) (k := 16) (v := ((F 14 0 16) + 1)) (w := .int (iI ((F 14 0 16) + 1))) hx hb hts inW_14 tyX14 tyX14_ok nmX14 hown hK hZ hS (by decide) (by decide) rfl (by decide) k_11_14 rfl (fun G h => congrArg (fun q => Value.int (iI q)) h) rfl rfl (zno (by decide)) (D_181 W_prog_15_method_43_code_0 21 rfl rfl rfl) (fun H3 locs3 hZ3 hS3 => ?_)
    refine lv_aload_n hx hb (D_42 W_prog_15_method_43_code_0 24 rfl rfl) rfl (lv_at hl 0 rfl) ?_
    obtain ⟨r4, F4, B4, hc4, hf⟩ := gbind hf
    refine va_calli (va_runV (As := []) (rest := []) ⟨hx, hb, hml, hown, hts⟩ (c_M_isName (l := l) hc4) (cwV 0 hts (gdV k_14_152 k_14_154 ks_210 k_1_9 k_14_155) rfl rfl rfl (by decide +kernel) ⟨Nat.le_of_ble_eq_true rfl, Nat.le_of_ble_eq_true rfl⟩) (zPV X hZ3 hS3 (ci := 14) (by decide) (by decide) (r := (RX14, TX14, 107)) rfl []) rfl rfl hl.1 rfl (lv_room (Nat.le_of_ble_eq_true rfl)) (D_182 W_prog_15_method_43_code_0 25 rfl rfl rfl) ⟨Nat.le_of_ble_eq_true rfl, Nat.le_of_ble_eq_true rfl⟩) hS3 (fun q _ h => zAin X hS3 q h) (zAin X hS3) (fun p4 u4 t4 H4 locs4 ht4 hv4 hw4 hB4 hz4 hk4 hS4 => ?_)
    have hZ4 := zBack X ht4 hB4
    subst hw4
    obtain ⟨g5, hf⟩ := gif hf
    refine z0ne (tgt := 38) hx hb g5 (D_154 W_prog_15_method_43_code_0 28 rfl rfl rfl) (by decide) (fun h6 => ?_) (fun h6 => ?_)
    · replace hf := gneg hf h6
      refine lv_aload_n hx hb (D_42 W_prog_15_method_43_code_32 6 rfl rfl) rfl (lv_at hl 0 rfl) ?_
      refine zget (ci := 14) (C := RX14) (T := TX14) (v := .ref (ad 14 0 (25 + 1))) (k := 25) hx hb hts inW_14 hown hK hZ4 (by decide) (by decide) rfl (by decide) k_11_23 rfl (D_180 W_prog_15_method_43_code_32 7 rfl rfl rfl) ?_
      refine lv_aload_n hx hb (D_42 W_prog_15_method_43_code_32 10 rfl rfl) rfl (lv_at hl 0 rfl) ?_
      refine zget (ci := 14) (C := RX14) (T := TX14) (v := .int (iI (F4 14 0 27))) (k := 27) hx hb hts inW_14 hown hK hZ4 (by decide) (by decide) rfl (by decide) k_11_25 rfl (D_180 W_prog_15_method_43_code_32 11 rfl rfl rfl) ?_
      refine lv_aload_n hx hb (D_42 W_prog_15_method_43_code_32 14 rfl rfl) rfl (lv_at hl 0 rfl) ?_
      refine zget (ci := 14) (C := RX14) (T := TX14) (v := .ref (ad 14 0 (11 + 1))) (k := 11) hx hb hts inW_14 hown hK hZ4 (by decide) (by decide) rfl (by decide) k_11_9 rfl (D_180 W_prog_15_method_43_code_32 15 rfl rfl rfl) ?_
      refine lv_aload_n hx hb (D_42 W_prog_15_method_43_code_32 18 rfl rfl) rfl (lv_at hl 0 rfl) ?_
      refine zget (ci := 14) (C := RX14) (T := TX14) (v := .int (iI (F4 14 0 16))) (k := 16) hx hb hts inW_14 hown hK hZ4 (by decide) (by decide) rfl (by decide) k_11_14 rfl (D_180 W_prog_15_method_43_code_32 19 rfl rfl rfl) ?_
      obtain ⟨g7, hf⟩ := gif hf
      refine zlald (ci := 14) (k := 11) hx hb hK rfl hZ4 (by decide) (by decide) rfl (Nat.le_of_ble_eq_true rfl) g7.1 g7.2 (D_47 W_prog_15_method_43_code_32 22 rfl rfl) ?_
      obtain ⟨r8, F8, B8, hc8, hf⟩ := gbind hf
      refine va_calli (va_runS (As := [.ref (ad 14 0 (25 + 1)), .int (iI (F4 14 0 27)), .long (lI (B4 14 0 11 (F4 14 0 16)))]) (rest := []) ⟨hx, hb, hml, hown, hts⟩ (c_M_find (l := l) hc8) (va_cwS 3 hts (gdS k_14_156 k_14_157 k_1_9 k_14_158) rfl rfl rfl (by decide +kernel) ⟨Nat.le_of_ble_eq_true rfl, Nat.le_of_ble_eq_true rfl⟩) (zPS X hZ4 hS4 [.ref (ad 14 0 (25 + 1)), .int (iI (F4 14 0 27)), .long (lI (B4 14 0 11 (F4 14 0 16)))]) rfl rfl hl.1 rfl (lv_room (Nat.le_of_ble_eq_true rfl)) (D_184 W_prog_15_method_43_code_32 23 rfl rfl rfl) ⟨Nat.le_of_ble_eq_true rfl, Nat.le_of_ble_eq_true rfl⟩) hS4 (fun q _ h => zAin X hS4 q h) (zAin X hS4) (fun p8 u8 t8 H8 locs8 ht8 hv8 hw8 hB8 hz8 hk8 hS8 => ?_)
      have hZ8 := zBack X ht8 hB8
      subst hw8
      obtain ⟨g9, hf⟩ := gif hf
      refine z0lt (tgt := 66) hx hb g9 (D_155 W_prog_15_method_43_code_32 26 rfl rfl rfl) (by decide) (fun h10 => ?_) (fun h10 => ?_)
      · replace hf := gpos hf h10
        exact b_M_headLet_66 X hf hZ8 hS8 (lv_sub hl [0] rfl)
      · replace hf := gneg hf h10
        refine lv_aload_n hx hb (D_42 W_prog_15_method_43_code_32 29 rfl rfl) rfl (lv_at hl 0 rfl) ?_
        refine lv_iconst (v := iI 4) hx hb (D_7 W_prog_15_method_43_code_32 30 rfl rfl) rfl ?_
        obtain ⟨r11, F11, B11, hc11, hf⟩ := gbind hf
        refine va_callv (va_runV (As := [.int (iI 4)]) (rest := []) ⟨hx, hb, hml, hown, hts⟩ (c_M_fail (l := l) hc11) (cwV 1 hts (gdV k_14_128 k_14_130 ks_204 k_1_9 k_14_131) rfl rfl rfl (by decide +kernel) ⟨Nat.le_of_ble_eq_true rfl, Nat.le_of_ble_eq_true rfl⟩) (zPV X hZ8 hS8 (ci := 14) (by decide) (by decide) (r := (RX14, TX14, 107)) rfl [.int (iI 4)]) rfl rfl hl.1 rfl (lv_room (Nat.le_of_ble_eq_true rfl)) (D_182 W_prog_15_method_43_code_32 31 rfl rfl rfl) ⟨Nat.le_of_ble_eq_true rfl, Nat.le_of_ble_eq_true rfl⟩) hS8 (fun q _ h => zAin X hS8 q h) (zAin X hS8) (fun u11 t11 H11 locs11 ht11 hv11 hw11 hB11 hz11 hk11 hS11 => ?_)
        have hZ11 := zBack X ht11 hB11
        exact b_M_headLet_66 X hf hZ11 hS11 (lv_sub hl [0] rfl)
    · replace hf := gpos hf h6
      refine lv_aload_n hx hb (D_42 W_prog_15_method_43_code_0 31 rfl rfl) rfl (lv_at hl 0 rfl) ?_
      obtain ⟨r12, F12, B12, hc12, hf⟩ := gbind hf
      refine va_callv (va_runV (As := []) (rest := []) ⟨hx, hb, hml, hown, hts⟩ (c_M_wrong (l := l) hc12) (cwV 0 hts (gdV k_14_124 k_14_126 ks_203 k_1_9 k_14_127) rfl rfl rfl (by decide +kernel) ⟨Nat.le_of_ble_eq_true rfl, Nat.le_of_ble_eq_true rfl⟩) (zPV X hZ4 hS4 (ci := 14) (by decide) (by decide) (r := (RX14, TX14, 107)) rfl []) rfl rfl hl.1 rfl (lv_room (Nat.le_of_ble_eq_true rfl)) (D_182 W_prog_15_method_43_code_32 0 rfl rfl rfl) ⟨Nat.le_of_ble_eq_true rfl, Nat.le_of_ble_eq_true rfl⟩) hS4 (fun q _ h => zAin X hS4 q h) (zAin X hS4) (fun u12 t12 H12 locs12 ht12 hv12 hw12 hB12 hz12 hk12 hS12 => ?_)
      have hZ12 := zBack X ht12 hB12
      refine lv_goto (tgt := 66) hx hb (D_167 W_prog_15_method_43_code_32 3 rfl rfl rfl) (by decide) ?_
      exact b_M_headLet_66 X hf hZ12 hS12 (lv_sub hl [0] rfl)
  · replace hf := gpos hf h2
    refine lv_aload_n hx hb (D_42 W_prog_15_method_43_code_0 9 rfl rfl) rfl (lv_at hl 0 rfl) ?_
    obtain ⟨r13, F13, B13, hc13, hf⟩ := gbind hf
    refine va_callv (va_runV (As := []) (rest := []) ⟨hx, hb, hml, hown, hts⟩ (c_M_wrong (l := l) hc13) (cwV 0 hts (gdV k_14_124 k_14_126 ks_203 k_1_9 k_14_127) rfl rfl rfl (by decide +kernel) ⟨Nat.le_of_ble_eq_true rfl, Nat.le_of_ble_eq_true rfl⟩) (zPV X hZ hS (ci := 14) (by decide) (by decide) (r := (RX14, TX14, 107)) rfl []) rfl rfl hl.1 rfl (lv_room (Nat.le_of_ble_eq_true rfl)) (D_182 W_prog_15_method_43_code_0 10 rfl rfl rfl) ⟨Nat.le_of_ble_eq_true rfl, Nat.le_of_ble_eq_true rfl⟩) hS (fun q _ h => zAin X hS q h) (zAin X hS) (fun u13 t13 H13 locs13 ht13 hv13 hw13 hB13 hz13 hk13 hS13 => ?_)
    have hZ13 := zBack X ht13 hB13
    cases hf
    exact W.vret hx hb hr (fun t ht hW => ⟨⟨(), rfl, trivial, by rw [ht]; exact hZ13, va_K.moved hW.alike hK⟩, hS13.F ht⟩) hS13.2.2 (D_177 W_prog_15_method_43_code_0 13 rfl rfl) hlk

abbrev Q_M_voiceText (D : va_G) (ca : Nat → ClassId) (ad : Nat → Int → Nat → Nat) (L : List Nat) (r : Int) (F : zF) (B : zB) (A : Nat → Prop) : Array Value → State → Outcome → State → Prop := va_Qv (S := Unit) (fun _ => True) (fun _ => zPo D ca ad lnM nM L F B A) A
def f_M_voiceText_217 (K : Nat) (l1 : Int) (F : zF) (B : zB) : zO := if 0 ≤ (F 14 0 6) ∧ (F 14 0 6) < 3 then zbind (f_M_number K 0 3 0 F B) (fun r43 F43 B43 => if 0 ≤ l1 ∧ l1 < 4 then zbind (f_M_block K (zup3 (zup3 F43 14 0 20 4) 14 0 21 0) (zup4 (zup4 B43 13 (F 14 0 6) 9 l1 r43) 14 0 29 l1 (F43 14 0 16))) (fun r49 F49 B49 => if 0 ≤ (F49 14 0 6) ∧ (F49 14 0 6) < 3 then some (0, (zup3 F49 13 (F49 14 0 6) 1 ((F49 13 (F49 14 0 6) 1) + 1)), B49) else none) else none) else none
set_option maxHeartbeats 4000000 in
set_option maxRecDepth 100000 in
theorem b_M_voiceText_217 {D : va_G} {ca : Nat → ClassId} {ad : Nat → Int → Nat → Nat} {L : List Nat} {aS vS : Nat → Nat} {A : Nat → Prop} {p : Program} {l : Launch} {e : Env} {s : State} {m : MethodId} {args : Array Value} {below : List Frame} {meth : Method} {c : Code} {K : Nat} {r : Int} {F9 : zF} {B9 : zB} (X : zX D ca L aS vS A p s m args meth c prog_15_method_44_code 5 (Option.none : Option Jvm.ClassFile.FieldType) "StaveHouseModel") {l1 : Int} {F : zF} {B : zB} {H : Heap} {locs : List Loc} {ls : Array Slot} (hf : f_M_voiceText_217 K l1 F B = some (r, F9, B9)) (hZ : zH D ca ad lnM nM L F B A H) (hS : va_S A s.heap H locs) (hl : lv_has ls 5 [(1, .int (iI l1)), (0, .ref (ad 14 0 0))]) : W p l e ({ frames := 47, cells := 0, slots := 0, locals := 1051 } : Room) s m args below meth c H locs 0 0 (MQ below (Q_M_voiceText D ca ad L r F9 B9 A) args s 0 0 A) (F0 m 217 ls []) := by
  obtain ⟨hx, hb, hr, hml, hown, hts, hlk, hK, hA, hL, hX⟩ := id X
  replace hf : (if 0 ≤ (F 14 0 6) ∧ (F 14 0 6) < 3 then zbind (f_M_number K 0 3 0 F B) (fun r43 F43 B43 => if 0 ≤ l1 ∧ l1 < 4 then zbind (f_M_block K (zup3 (zup3 F43 14 0 20 4) 14 0 21 0) (zup4 (zup4 B43 13 (F 14 0 6) 9 l1 r43) 14 0 29 l1 (F43 14 0 16))) (fun r49 F49 B49 => if 0 ≤ (F49 14 0 6) ∧ (F49 14 0 6) < 3 then some (0, (zup3 F49 13 (F49 14 0 6) 1 ((F49 13 (F49 14 0 6) 1) + 1)), B49) else none) else none) else none) = some (r, F9, B9) := hf
  refine lv_aload_n hx hb (D_42 W_prog_15_method_44_code_192 25 rfl rfl) rfl (lv_at hl 1 rfl) ?_
  refine zget (ci := 14) (C := RX14) (T := TX14) (v := va_rf (zrf ad 13 (F 14 0 6))) (k := 6) hx hb hts inW_14 hown hK hZ (by decide) (by decide) rfl (by decide) k_11_4 rfl (D_180 W_prog_15_method_44_code_192 26 rfl rfl rfl) ?_
  obtain ⟨g42, hf⟩ := gif hf
  refine zunrf g42.1 ?_
  refine zget (ci := 13) (C := RX13) (T := TX13) (v := .ref (ad 13 (F 14 0 6) (9 + 1))) (k := 9) hx hb hts inW_13 hown hK hZ g42.1 g42.2 rfl (by decide) k_9_136 rfl (D_180 W_prog_15_method_44_code_192 29 rfl rfl rfl) ?_
  refine lv_iload_n hx hb (D_27 W_prog_15_method_44_code_224 0 rfl rfl) rfl (lv_at hl 0 rfl) ?_
  refine lv_aload_n hx hb (D_42 W_prog_15_method_44_code_224 1 rfl rfl) rfl (lv_at hl 1 rfl) ?_
  refine lv_iconst (v := iI 0) hx hb (D_3 W_prog_15_method_44_code_224 2 rfl rfl) rfl ?_
  refine lv_iconst (v := iI 3) hx hb (D_6 W_prog_15_method_44_code_224 3 rfl rfl) rfl ?_
  refine lv_iconst (v := iI 0) hx hb (D_3 W_prog_15_method_44_code_224 4 rfl rfl) rfl ?_
  obtain ⟨r43, F43, B43, hc43, hf⟩ := gbind hf
  refine va_calli (va_runV (As := [.int (iI 0), .int (iI 3), .int (iI 0)]) (rest := [.int (iI l1), .ref (ad 13 (F 14 0 6) (9 + 1))]) ⟨hx, hb, hml, hown, hts⟩ (c_M_number (l := l) hc43) (cwV 3 hts (gdV k_14_140 k_14_142 ks_207 k_1_9 k_14_143) rfl rfl rfl (by decide +kernel) ⟨Nat.le_of_ble_eq_true rfl, Nat.le_of_ble_eq_true rfl⟩) (zPV X hZ hS (ci := 14) (by decide) (by decide) (r := (RX14, TX14, 107)) rfl [.int (iI 0), .int (iI 3), .int (iI 0)]) rfl rfl hl.1 rfl (lv_room (Nat.le_of_ble_eq_true rfl)) (D_182 W_prog_15_method_44_code_224 5 rfl rfl rfl) ⟨Nat.le_of_ble_eq_true rfl, Nat.le_of_ble_eq_true rfl⟩) hS (fun q _ h => zAin X hS q h) (zAin X hS) (fun p43 u43 t43 H43 locs43 ht43 hv43 hw43 hB43 hz43 hk43 hS43 => ?_)
  have hZ43 := zBack X ht43 hB43
  subst hw43
  obtain ⟨g44, hf⟩ := gif hf
  refine zast (ci := 13) (k := 9) hx hb hK rfl hZ43 hS43 g42.1 g42.2 rfl (Nat.le_of_ble_eq_true rfl) g44.1 g44.2 (D_79 W_prog_15_method_44_code_224 8 rfl rfl) (fun H45 locs45 hZ45 hS45 => ?_)
  refine lv_aload_n hx hb (D_42 W_prog_15_method_44_code_224 9 rfl rfl) rfl (lv_at hl 1 rfl) ?_
  refine zget (ci := 14) (C := RX14) (T := TX14) (v := .ref (ad 14 0 (29 + 1))) (k := 29) hx hb hts inW_14 hown hK hZ45 (by decide) (by decide) rfl (by decide) k_11_27 rfl (D_180 W_prog_15_method_44_code_224 10 rfl rfl rfl) ?_
  refine lv_iload_n hx hb (D_27 W_prog_15_method_44_code_224 13 rfl rfl) rfl (lv_at hl 0 rfl) ?_
  refine lv_aload_n hx hb (D_42 W_prog_15_method_44_code_224 14 rfl rfl) rfl (lv_at hl 1 rfl) ?_
  refine zget (ci := 14) (C := RX14) (T := TX14) (v := .int (iI (F43 14 0 16))) (k := 16) hx hb hts inW_14 hown hK hZ45 (by decide) (by decide) rfl (by decide) k_11_14 rfl (D_180 W_prog_15_method_44_code_224 15 rfl rfl rfl) ?_
  refine zast (ci := 14) (k := 29) hx hb hK rfl hZ45 hS45 (by decide) (by decide) rfl (Nat.le_of_ble_eq_true rfl) g44.1 g44.2 (D_79 W_prog_15_method_44_code_224 18 rfl rfl) (fun H46 locs46 hZ46 hS46 => ?_)
  refine lv_aload_n hx hb (D_42 W_prog_15_method_44_code_224 19 rfl rfl) rfl (lv_at hl 1 rfl) ?_
  refine lv_iconst (v := iI 4) hx hb (D_7 W_prog_15_method_44_code_224 20 rfl rfl) rfl ?_
  refine zput (ci := 14) (C := RX14) (T := TX14) (k := 20) (v := 4) (w := .int (iI 4)) hx hb hts inW_14 tyX14 tyX14_ok nmX14 hown hK hZ46 hS46 (by decide) (by decide) rfl (by decide) k_11_18 rfl (fun G h => congrArg (fun q => Value.int (iI q)) h) rfl rfl (zno (by decide)) (D_181 W_prog_15_method_44_code_224 21 rfl rfl rfl) (fun H47 locs47 hZ47 hS47 => ?_)
  refine lv_aload_n hx hb (D_42 W_prog_15_method_44_code_224 24 rfl rfl) rfl (lv_at hl 1 rfl) ?_
  refine lv_iconst (v := iI 0) hx hb (D_3 W_prog_15_method_44_code_224 25 rfl rfl) rfl ?_
  refine zput (ci := 14) (C := RX14) (T := TX14) (k := 21) (v := 0) (w := .int (iI 0)) hx hb hts inW_14 tyX14 tyX14_ok nmX14 hown hK hZ47 hS47 (by decide) (by decide) rfl (by decide) k_11_19 rfl (fun G h => congrArg (fun q => Value.int (iI q)) h) rfl rfl (zno (by decide)) (D_181 W_prog_15_method_44_code_224 26 rfl rfl rfl) (fun H48 locs48 hZ48 hS48 => ?_)
  refine lv_aload_n hx hb (D_42 W_prog_15_method_44_code_224 29 rfl rfl) rfl (lv_at hl 1 rfl) ?_
  obtain ⟨r49, F49, B49, hc49, hf⟩ := gbind hf
  refine va_callv (va_runV (As := []) (rest := []) ⟨hx, hb, hml, hown, hts⟩ (c_M_block (l := l) hc49) (cwV 0 hts (gdV k_14_159 k_14_161 ks_211 k_1_9 k_14_162) rfl rfl rfl (by decide +kernel) ⟨Nat.le_of_ble_eq_true rfl, Nat.le_of_ble_eq_true rfl⟩) (zPV X hZ48 hS48 (ci := 14) (by decide) (by decide) (r := (RX14, TX14, 107)) rfl []) rfl rfl hl.1 rfl (lv_room (Nat.le_of_ble_eq_true rfl)) (D_182 W_prog_15_method_44_code_224 30 rfl rfl rfl) ⟨Nat.le_of_ble_eq_true rfl, Nat.le_of_ble_eq_true rfl⟩) hS48 (fun q _ h => zAin X hS48 q h) (zAin X hS48) (fun u49 t49 H49 locs49 ht49 hv49 hw49 hB49 hz49 hk49 hS49 => ?_)
  have hZ49 := zBack X ht49 hB49
  refine lv_aload_n hx hb (D_42 W_prog_15_method_44_code_256 1 rfl rfl) rfl (lv_at hl 1 rfl) ?_
  refine zget (ci := 14) (C := RX14) (T := TX14) (v := va_rf (zrf ad 13 (F49 14 0 6))) (k := 6) hx hb hts inW_14 hown hK hZ49 (by decide) (by decide) rfl (by decide) k_11_4 rfl (D_180 W_prog_15_method_44_code_256 2 rfl rfl rfl) ?_
  refine lv_dup hx hb (D_89 W_prog_15_method_44_code_256 5 rfl rfl) (zcat _) ?_
  obtain ⟨g50, hf⟩ := gif hf
  refine zunrf g50.1 ?_
  refine zget (ci := 13) (C := RX13) (T := TX13) (v := .int (iI (F49 13 (F49 14 0 6) 1))) (k := 1) hx hb hts inW_13 hown hK hZ49 g50.1 g50.2 rfl (by decide) k_9_126 rfl (D_180 W_prog_15_method_44_code_256 6 rfl rfl rfl) ?_
  refine lv_iconst (v := iI 1) hx hb (D_4 W_prog_15_method_44_code_256 9 rfl rfl) rfl ?_
  refine zadd hx hb (D_96 W_prog_15_method_44_code_256 10 rfl rfl) ?_
  refine W.eq (g2 := F0 m 267 ls [.int (iI ((F49 13 (F49 14 0 6) 1) + 1)), .ref (ad 13 (F49 14 0 6) 0)]) (by rw [zrf_pos (ad := ad) (t := 13) g50.1]; try rfl) ?_
  refine zput (ci := 13) (C := RX13) (T := TX13) (k := 1) (v := ((F49 13 (F49 14 0 6) 1) + 1)) (w := .int (iI ((F49 13 (F49 14 0 6) 1) + 1))) hx hb hts inW_13 tyX13 tyX13_ok nmX13 hown hK hZ49 hS49 g50.1 g50.2 rfl (by decide) k_9_126 rfl (fun G h => congrArg (fun q => Value.int (iI q)) h) rfl rfl (zno (by decide)) (D_181 W_prog_15_method_44_code_256 11 rfl rfl rfl) (fun H51 locs51 hZ51 hS51 => ?_)
  cases hf
  exact W.vret hx hb hr (fun t ht hW => ⟨⟨(), rfl, trivial, by rw [ht]; exact hZ51, va_K.moved hW.alike hK⟩, hS51.F ht⟩) hS51.2.2 (D_177 W_prog_15_method_44_code_256 14 rfl rfl) hlk

def f_M_voiceText_187 (K : Nat) (l1 : Int) (s0 : Int) (s1 : Int) (s2 : Int) (F : zF) (B : zB) : zO := if 0 ≤ s0 ∧ s0 < 3 then if 0 ≤ s1 ∧ s1 < 4 then if 0 ≤ (F 14 0 6) ∧ (F 14 0 6) < 3 then if 0 ≤ l1 ∧ l1 < 4 then if r32 ((zup4 B 13 s0 8 s1 s2) 13 (F 14 0 6) 8 l1) then (if 0 ≤ ((zup4 B 13 s0 8 s1 s2) 13 (F 14 0 6) 8 l1) then f_M_voiceText_217 K l1 (zup3 F 14 0 16 ((F 14 0 16) + 1)) (zup4 B 13 s0 8 s1 s2) else zbind (f_M_wrong K F (zup4 B 13 s0 8 s1 s2)) (fun r41 F41 B41 => f_M_voiceText_217 K l1 F41 B41)) else none else none else none else none else none
set_option maxHeartbeats 4000000 in
set_option maxRecDepth 100000 in
theorem b_M_voiceText_187 {D : va_G} {ca : Nat → ClassId} {ad : Nat → Int → Nat → Nat} {L : List Nat} {aS vS : Nat → Nat} {A : Nat → Prop} {p : Program} {l : Launch} {e : Env} {s : State} {m : MethodId} {args : Array Value} {below : List Frame} {meth : Method} {c : Code} {K : Nat} {r : Int} {F9 : zF} {B9 : zB} (X : zX D ca L aS vS A p s m args meth c prog_15_method_44_code 5 (Option.none : Option Jvm.ClassFile.FieldType) "StaveHouseModel") {l1 : Int} {s0 : Int} {s1 : Int} {s2 : Int} {F : zF} {B : zB} {H : Heap} {locs : List Loc} {ls : Array Slot} (hf : f_M_voiceText_187 K l1 s0 s1 s2 F B = some (r, F9, B9)) (hZ : zH D ca ad lnM nM L F B A H) (hS : va_S A s.heap H locs) (hl : lv_has ls 5 [(1, .int (iI l1)), (0, .ref (ad 14 0 0))]) : W p l e ({ frames := 47, cells := 0, slots := 0, locals := 1051 } : Room) s m args below meth c H locs 0 0 (MQ below (Q_M_voiceText D ca ad L r F9 B9 A) args s 0 0 A) (F0 m 187 ls [.int (iI s2), .int (iI s1), .ref (ad 13 s0 (8 + 1))]) := by
  obtain ⟨hx, hb, hr, hml, hown, hts, hlk, hK, hA, hL, hX⟩ := id X
  replace hf : (if 0 ≤ s0 ∧ s0 < 3 then if 0 ≤ s1 ∧ s1 < 4 then if 0 ≤ (F 14 0 6) ∧ (F 14 0 6) < 3 then if 0 ≤ l1 ∧ l1 < 4 then if r32 ((zup4 B 13 s0 8 s1 s2) 13 (F 14 0 6) 8 l1) then (if 0 ≤ ((zup4 B 13 s0 8 s1 s2) 13 (F 14 0 6) 8 l1) then f_M_voiceText_217 K l1 (zup3 F 14 0 16 ((F 14 0 16) + 1)) (zup4 B 13 s0 8 s1 s2) else zbind (f_M_wrong K F (zup4 B 13 s0 8 s1 s2)) (fun r41 F41 B41 => f_M_voiceText_217 K l1 F41 B41)) else none else none else none else none else none) = some (r, F9, B9) := hf
  obtain ⟨g33, hf⟩ := gif hf
  obtain ⟨g34, hf⟩ := gif hf
  refine zast (ci := 13) (k := 8) hx hb hK rfl hZ hS g33.1 g33.2 rfl (Nat.le_of_ble_eq_true rfl) g34.1 g34.2 (D_79 W_prog_15_method_44_code_160 27 rfl rfl) (fun H35 locs35 hZ35 hS35 => ?_)
  refine lv_aload_n hx hb (D_42 W_prog_15_method_44_code_160 28 rfl rfl) rfl (lv_at hl 1 rfl) ?_
  refine zget (ci := 14) (C := RX14) (T := TX14) (v := va_rf (zrf ad 13 (F 14 0 6))) (k := 6) hx hb hts inW_14 hown hK hZ35 (by decide) (by decide) rfl (by decide) k_11_4 rfl (D_180 W_prog_15_method_44_code_160 29 rfl rfl rfl) ?_
  obtain ⟨g36, hf⟩ := gif hf
  refine zunrf g36.1 ?_
  refine zget (ci := 13) (C := RX13) (T := TX13) (v := .ref (ad 13 (F 14 0 6) (8 + 1))) (k := 8) hx hb hts inW_13 hown hK hZ35 g36.1 g36.2 rfl (by decide) k_9_134 rfl (D_180 W_prog_15_method_44_code_192 0 rfl rfl rfl) ?_
  refine lv_iload_n hx hb (D_27 W_prog_15_method_44_code_192 3 rfl rfl) rfl (lv_at hl 0 rfl) ?_
  obtain ⟨g37, hf⟩ := gif hf
  refine zald (ci := 13) (k := 8) hx hb hK rfl hZ35 g36.1 g36.2 rfl (Nat.le_of_ble_eq_true rfl) g37.1 g37.2 (D_46 W_prog_15_method_44_code_192 4 rfl rfl) ?_
  obtain ⟨g38, hf⟩ := gif hf
  refine z0ge (tgt := 207) hx hb g38 (D_156 W_prog_15_method_44_code_192 5 rfl rfl rfl) (by decide) (fun h39 => ?_) (fun h39 => ?_)
  · replace hf := gpos hf h39
    refine lv_aload_n hx hb (D_42 W_prog_15_method_44_code_192 15 rfl rfl) rfl (lv_at hl 1 rfl) ?_
    refine lv_dup hx hb (D_89 W_prog_15_method_44_code_192 16 rfl rfl) rfl ?_
    refine zget (ci := 14) (C := RX14) (T := TX14) (v := .int (iI (F 14 0 16))) (k := 16) hx hb hts inW_14 hown hK hZ35 (by decide) (by decide) rfl (by decide) k_11_14 rfl (D_180 W_prog_15_method_44_code_192 17 rfl rfl rfl) ?_
    refine lv_iconst (v := iI 1) hx hb (D_4 W_prog_15_method_44_code_192 20 rfl rfl) rfl ?_
    refine zadd hx hb (D_96 W_prog_15_method_44_code_192 21 rfl rfl) ?_
    refine zput (ci := 14) (C := RX14) (T := TX14) (k := 16) (v := ((F 14 0 16) + 1)) (w := .int (iI ((F 14 0 16) + 1))) hx hb hts inW_14 tyX14 tyX14_ok nmX14 hown hK hZ35 hS35 (by decide) (by decide) rfl (by decide) k_11_14 rfl (fun G h => congrArg (fun q => Value.int (iI q)) h) rfl rfl (zno (by decide)) (D_181 W_prog_15_method_44_code_192 22 rfl rfl rfl) (fun H40 locs40 hZ40 hS40 => ?_)
    exact b_M_voiceText_217 X hf hZ40 hS40 (lv_sub hl [0, 1] rfl)
  · replace hf := gneg hf h39
    refine lv_aload_n hx hb (D_42 W_prog_15_method_44_code_192 8 rfl rfl) rfl (lv_at hl 1 rfl) ?_
    obtain ⟨r41, F41, B41, hc41, hf⟩ := gbind hf
    refine va_callv (va_runV (As := []) (rest := []) ⟨hx, hb, hml, hown, hts⟩ (c_M_wrong (l := l) hc41) (cwV 0 hts (gdV k_14_124 k_14_126 ks_203 k_1_9 k_14_127) rfl rfl rfl (by decide +kernel) ⟨Nat.le_of_ble_eq_true rfl, Nat.le_of_ble_eq_true rfl⟩) (zPV X hZ35 hS35 (ci := 14) (by decide) (by decide) (r := (RX14, TX14, 107)) rfl []) rfl rfl hl.1 rfl (lv_room (Nat.le_of_ble_eq_true rfl)) (D_182 W_prog_15_method_44_code_192 9 rfl rfl rfl) ⟨Nat.le_of_ble_eq_true rfl, Nat.le_of_ble_eq_true rfl⟩) hS35 (fun q _ h => zAin X hS35 q h) (zAin X hS35) (fun u41 t41 H41 locs41 ht41 hv41 hw41 hB41 hz41 hk41 hS41 => ?_)
    have hZ41 := zBack X ht41 hB41
    refine lv_goto (tgt := 217) hx hb (D_167 W_prog_15_method_44_code_192 12 rfl rfl rfl) (by decide) ?_
    exact b_M_voiceText_217 X hf hZ41 hS41 (lv_sub hl [0, 1] rfl)

def f_M_voiceText_108 (K : Nat) : Nat → Int → Int → Int → zF → zB → zO
  | 0, _, _, _, _, _ => none
  | n + 1, l3, l2, l1, F, B => if r64 l3 then (if (zcmp l3 0) ≤ 0 then if 0 ≤ (F 14 0 6) ∧ (F 14 0 6) < 3 then if 0 ≤ l1 ∧ l1 < 4 then if 0 ≤ ((F 14 0 16) + 1) ∧ ((F 14 0 16) + 1) < 3001 then if r32 ((zup4 B 13 (F 14 0 6) 11 l1 l2) 14 0 7 ((F 14 0 16) + 1)) then (if ((zup4 B 13 (F 14 0 6) 11 l1 l2) 14 0 7 ((F 14 0 16) + 1)) = 4 then zbind (f_M_find K 14 0 13 4 ((zup4 B 13 (F 14 0 6) 11 l1 l2) 14 0 11 ((F 14 0 16) + 1)) (zup3 F 14 0 16 ((F 14 0 16) + 1)) (zup4 B 13 (F 14 0 6) 11 l1 l2)) (fun r31 F31 B31 => f_M_voiceText_187 K l1 (F 14 0 6) l1 r31 F31 B31) else f_M_voiceText_187 K l1 (F 14 0 6) l1 (-1) (zup3 F 14 0 16 ((F 14 0 16) + 1)) (zup4 B 13 (F 14 0 6) 11 l1 l2)) else none else none else none else none else f_M_voiceText_108 K n (zlshr l3 8) (l2 + 1) l1 F B) else none
set_option maxHeartbeats 4000000 in
set_option maxRecDepth 100000 in
theorem b_M_voiceText_108 {D : va_G} {ca : Nat → ClassId} {ad : Nat → Int → Nat → Nat} {L : List Nat} {aS vS : Nat → Nat} {A : Nat → Prop} {p : Program} {l : Launch} {e : Env} {s : State} {m : MethodId} {args : Array Value} {below : List Frame} {meth : Method} {c : Code} {K : Nat} {r : Int} {F9 : zF} {B9 : zB} (X : zX D ca L aS vS A p s m args meth c prog_15_method_44_code 5 (Option.none : Option Jvm.ClassFile.FieldType) "StaveHouseModel") : ∀ {n : Nat} {l3 : Int} {l2 : Int} {l1 : Int} {F : zF} {B : zB} {H : Heap} {locs : List Loc} {ls : Array Slot}, f_M_voiceText_108 K n l3 l2 l1 F B = some (r, F9, B9) → zH D ca ad lnM nM L F B A H → va_S A s.heap H locs → lv_has ls 5 [(3, .long (lI l3)), (2, .int (iI l2)), (1, .int (iI l1)), (0, .ref (ad 14 0 0))] → W p l e ({ frames := 47, cells := 0, slots := 0, locals := 1051 } : Room) s m args below meth c H locs 0 0 (MQ below (Q_M_voiceText D ca ad L r F9 B9 A) args s 0 0 A) (F0 m 108 ls []) := by
  obtain ⟨hx, hb, hr, hml, hown, hts, hlk, hK, hA, hL, hX⟩ := id X
  intro n
  induction n with
  | zero =>
    intros
    rename_i hf _ _ _
    cases hf
  | succ n ih =>
    intro l3 l2 l1 F B H locs ls hf hZ hS hl
    replace hf : (if r64 l3 then (if (zcmp l3 0) ≤ 0 then if 0 ≤ (F 14 0 6) ∧ (F 14 0 6) < 3 then if 0 ≤ l1 ∧ l1 < 4 then if 0 ≤ ((F 14 0 16) + 1) ∧ ((F 14 0 16) + 1) < 3001 then if r32 ((zup4 B 13 (F 14 0 6) 11 l1 l2) 14 0 7 ((F 14 0 16) + 1)) then (if ((zup4 B 13 (F 14 0 6) 11 l1 l2) 14 0 7 ((F 14 0 16) + 1)) = 4 then zbind (f_M_find K 14 0 13 4 ((zup4 B 13 (F 14 0 6) 11 l1 l2) 14 0 11 ((F 14 0 16) + 1)) (zup3 F 14 0 16 ((F 14 0 16) + 1)) (zup4 B 13 (F 14 0 6) 11 l1 l2)) (fun r31 F31 B31 => f_M_voiceText_187 K l1 (F 14 0 6) l1 r31 F31 B31) else f_M_voiceText_187 K l1 (F 14 0 6) l1 (-1) (zup3 F 14 0 16 ((F 14 0 16) + 1)) (zup4 B 13 (F 14 0 6) 11 l1 l2)) else none else none else none else none else f_M_voiceText_108 K n (zlshr l3 8) (l2 + 1) l1 F B) else none) = some (r, F9, B9) := hf
    refine lv_lload_n hx hb (D_33 W_prog_15_method_44_code_96 12 rfl rfl) rfl (lv_at hl 0 rfl) ?_
    refine lv_lconst (v := lI 0) hx hb (D_9 W_prog_15_method_44_code_96 13 rfl rfl) (by decide) ?_
    obtain ⟨g22, hf⟩ := gif hf
    refine zcmp_r hx hb g22 (by decide) (D_148 W_prog_15_method_44_code_96 14 rfl rfl) ?_
    refine z0le (tgt := 125) hx hb zcmp_32 (D_158 W_prog_15_method_44_code_96 15 rfl rfl rfl) (by decide) (fun h23 => ?_) (fun h23 => ?_)
    · replace hf := gpos hf h23
      refine lv_aload_n hx hb (D_42 W_prog_15_method_44_code_96 29 rfl rfl) rfl (lv_at hl 3 rfl) ?_
      refine zget (ci := 14) (C := RX14) (T := TX14) (v := va_rf (zrf ad 13 (F 14 0 6))) (k := 6) hx hb hts inW_14 hown hK hZ (by decide) (by decide) rfl (by decide) k_11_4 rfl (D_180 W_prog_15_method_44_code_96 30 rfl rfl rfl) ?_
      obtain ⟨g24, hf⟩ := gif hf
      refine zunrf g24.1 ?_
      refine zget (ci := 13) (C := RX13) (T := TX13) (v := .ref (ad 13 (F 14 0 6) (11 + 1))) (k := 11) hx hb hts inW_13 hown hK hZ g24.1 g24.2 rfl (by decide) k_9_140 rfl (D_180 W_prog_15_method_44_code_128 1 rfl rfl rfl) ?_
      refine lv_iload_n hx hb (D_27 W_prog_15_method_44_code_128 4 rfl rfl) rfl (lv_at hl 2 rfl) ?_
      refine lv_iload_n hx hb (D_28 W_prog_15_method_44_code_128 5 rfl rfl) rfl (lv_at hl 1 rfl) ?_
      obtain ⟨g25, hf⟩ := gif hf
      refine zast (ci := 13) (k := 11) hx hb hK rfl hZ hS g24.1 g24.2 rfl (Nat.le_of_ble_eq_true rfl) g25.1 g25.2 (D_79 W_prog_15_method_44_code_128 6 rfl rfl) (fun H26 locs26 hZ26 hS26 => ?_)
      refine lv_aload_n hx hb (D_42 W_prog_15_method_44_code_128 7 rfl rfl) rfl (lv_at hl 3 rfl) ?_
      refine lv_dup hx hb (D_89 W_prog_15_method_44_code_128 8 rfl rfl) rfl ?_
      refine zget (ci := 14) (C := RX14) (T := TX14) (v := .int (iI (F 14 0 16))) (k := 16) hx hb hts inW_14 hown hK hZ26 (by decide) (by decide) rfl (by decide) k_11_14 rfl (D_180 W_prog_15_method_44_code_128 9 rfl rfl rfl) ?_
      refine lv_iconst (v := iI 1) hx hb (D_4 W_prog_15_method_44_code_128 12 rfl rfl) rfl ?_
      refine zadd hx hb (D_96 W_prog_15_method_44_code_128 13 rfl rfl) ?_
      refine zput (ci := 14) (C := RX14) (T := TX14) (k := 16) (v := ((F 14 0 16) + 1)) (w := .int (iI ((F 14 0 16) + 1))) hx hb hts inW_14 tyX14 tyX14_ok nmX14 hown hK hZ26 hS26 (by decide) (by decide) rfl (by decide) k_11_14 rfl (fun G h => congrArg (fun q => Value.int (iI q)) h) rfl rfl (zno (by decide)) (D_181 W_prog_15_method_44_code_128 14 rfl rfl rfl) (fun H27 locs27 hZ27 hS27 => ?_)
      refine lv_aload_n hx hb (D_42 W_prog_15_method_44_code_128 17 rfl rfl) rfl (lv_at hl 3 rfl) ?_
      refine zget (ci := 14) (C := RX14) (T := TX14) (v := va_rf (zrf ad 13 (F 14 0 6))) (k := 6) hx hb hts inW_14 hown hK hZ27 (by decide) (by decide) rfl (by decide) k_11_4 rfl (D_180 W_prog_15_method_44_code_128 18 rfl rfl rfl) ?_
      refine zunrf g24.1 ?_
      refine zget (ci := 13) (C := RX13) (T := TX13) (v := .ref (ad 13 (F 14 0 6) (8 + 1))) (k := 8) hx hb hts inW_13 hown hK hZ27 g24.1 g24.2 rfl (by decide) k_9_134 rfl (D_180 W_prog_15_method_44_code_128 21 rfl rfl rfl) ?_
      refine lv_iload_n hx hb (D_27 W_prog_15_method_44_code_128 24 rfl rfl) rfl (lv_at hl 2 rfl) ?_
      refine lv_aload_n hx hb (D_42 W_prog_15_method_44_code_128 25 rfl rfl) rfl (lv_at hl 3 rfl) ?_
      refine zget (ci := 14) (C := RX14) (T := TX14) (v := .ref (ad 14 0 (7 + 1))) (k := 7) hx hb hts inW_14 hown hK hZ27 (by decide) (by decide) rfl (by decide) k_11_5 rfl (D_180 W_prog_15_method_44_code_128 26 rfl rfl rfl) ?_
      refine lv_aload_n hx hb (D_42 W_prog_15_method_44_code_128 29 rfl rfl) rfl (lv_at hl 3 rfl) ?_
      refine zget (ci := 14) (C := RX14) (T := TX14) (v := .int (iI ((F 14 0 16) + 1))) (k := 16) hx hb hts inW_14 hown hK hZ27 (by decide) (by decide) rfl (by decide) k_11_14 rfl (D_180 W_prog_15_method_44_code_128 30 rfl rfl rfl) ?_
      obtain ⟨g28, hf⟩ := gif hf
      refine zald (ci := 14) (k := 7) hx hb hK rfl hZ27 (by decide) (by decide) rfl (Nat.le_of_ble_eq_true rfl) g28.1 g28.2 (D_46 W_prog_15_method_44_code_160 1 rfl rfl) ?_
      refine lv_iconst (v := iI 4) hx hb (D_7 W_prog_15_method_44_code_160 2 rfl rfl) rfl ?_
      obtain ⟨g29, hf⟩ := gif hf
      refine zne (tgt := 186) hx hb g29 (by decide) (D_160 W_prog_15_method_44_code_160 3 rfl rfl rfl) (by decide) (fun h30 => ?_) (fun h30 => ?_)
      · replace hf := gneg hf h30
        refine lv_iconst (v := iI (-1)) hx hb (D_2 W_prog_15_method_44_code_160 26 rfl rfl) rfl ?_
        exact b_M_voiceText_187 X hf hZ27 hS27 (lv_sub hl [2, 3] rfl)
      · replace hf := gpos hf h30
        refine lv_aload_n hx hb (D_42 W_prog_15_method_44_code_160 6 rfl rfl) rfl (lv_at hl 3 rfl) ?_
        refine zget (ci := 14) (C := RX14) (T := TX14) (v := .ref (ad 14 0 (13 + 1))) (k := 13) hx hb hts inW_14 hown hK hZ27 (by decide) (by decide) rfl (by decide) k_11_11 rfl (D_180 W_prog_15_method_44_code_160 7 rfl rfl rfl) ?_
        refine lv_iconst (v := iI 4) hx hb (D_7 W_prog_15_method_44_code_160 10 rfl rfl) rfl ?_
        refine lv_aload_n hx hb (D_42 W_prog_15_method_44_code_160 11 rfl rfl) rfl (lv_at hl 3 rfl) ?_
        refine zget (ci := 14) (C := RX14) (T := TX14) (v := .ref (ad 14 0 (11 + 1))) (k := 11) hx hb hts inW_14 hown hK hZ27 (by decide) (by decide) rfl (by decide) k_11_9 rfl (D_180 W_prog_15_method_44_code_160 12 rfl rfl rfl) ?_
        refine lv_aload_n hx hb (D_42 W_prog_15_method_44_code_160 15 rfl rfl) rfl (lv_at hl 3 rfl) ?_
        refine zget (ci := 14) (C := RX14) (T := TX14) (v := .int (iI ((F 14 0 16) + 1))) (k := 16) hx hb hts inW_14 hown hK hZ27 (by decide) (by decide) rfl (by decide) k_11_14 rfl (D_180 W_prog_15_method_44_code_160 16 rfl rfl rfl) ?_
        refine zlald (ci := 14) (k := 11) hx hb hK rfl hZ27 (by decide) (by decide) rfl (Nat.le_of_ble_eq_true rfl) g28.1 g28.2 (D_47 W_prog_15_method_44_code_160 19 rfl rfl) ?_
        obtain ⟨r31, F31, B31, hc31, hf⟩ := gbind hf
        refine va_calli (va_runS (As := [.ref (ad 14 0 (13 + 1)), .int (iI 4), .long (lI ((zup4 B 13 (F 14 0 6) 11 l1 l2) 14 0 11 ((F 14 0 16) + 1)))]) (rest := [.int (iI l1), .ref (ad 13 (F 14 0 6) (8 + 1))]) ⟨hx, hb, hml, hown, hts⟩ (c_M_find (l := l) hc31) (va_cwS 3 hts (gdS k_14_156 k_14_157 k_1_9 k_14_158) rfl rfl rfl (by decide +kernel) ⟨Nat.le_of_ble_eq_true rfl, Nat.le_of_ble_eq_true rfl⟩) (zPS X hZ27 hS27 [.ref (ad 14 0 (13 + 1)), .int (iI 4), .long (lI ((zup4 B 13 (F 14 0 6) 11 l1 l2) 14 0 11 ((F 14 0 16) + 1)))]) rfl rfl hl.1 rfl (lv_room (Nat.le_of_ble_eq_true rfl)) (D_184 W_prog_15_method_44_code_160 20 rfl rfl rfl) ⟨Nat.le_of_ble_eq_true rfl, Nat.le_of_ble_eq_true rfl⟩) hS27 (fun q _ h => zAin X hS27 q h) (zAin X hS27) (fun p31 u31 t31 H31 locs31 ht31 hv31 hw31 hB31 hz31 hk31 hS31 => ?_)
        have hZ31 := zBack X ht31 hB31
        subst hw31
        refine lv_goto (tgt := 187) hx hb (D_167 W_prog_15_method_44_code_160 23 rfl rfl rfl) (by decide) ?_
        exact b_M_voiceText_187 X hf hZ31 hS31 (lv_sub hl [2, 3] rfl)
    · replace hf := gneg hf h23
      refine lv_iinc (v := iI (l2 + 1)) (lv' := [(2, .int (iI (l2 + 1))), (3, .long (lI l3)), (1, .int (iI l1)), (0, .ref (ad 14 0 0))]) hx hb d_15_44_114 hl (k := 1) rfl (iI_add _ 1) (by decide) rfl (fun ls hl => ?_)
      refine lv_lload_n hx hb (D_33 W_prog_15_method_44_code_96 21 rfl rfl) rfl (lv_at hl 1 rfl) ?_
      refine lv_bipush (v := iI 8) hx hb (D_16 W_prog_15_method_44_code_96 22 rfl rfl rfl) (by decide) ?_
      refine zlshr_r hx hb (D_123 W_prog_15_method_44_code_96 24 rfl rfl) ?_
      refine lv_lstore_n (lv' := [(3, .long (lI (zlshr l3 8))), (2, .int (iI (l2 + 1))), (1, .int (iI l1)), (0, .ref (ad 14 0 0))]) hx hb (D_66 W_prog_15_method_44_code_96 25 rfl rfl) rfl hl (by decide) rfl (fun ls hl => ?_)
      refine lv_goto (tgt := 108) hx hb (D_167 W_prog_15_method_44_code_96 26 rfl rfl rfl) (by decide) ?_
      exact ih hf hZ hS (lv_sub hl [0, 1, 2, 3] rfl)

def f_M_voiceText_70 (K : Nat) (l1 : Int) (F : zF) (B : zB) : zO := zbind (f_M_good K F B) (fun r15 F15 B15 => if r32 r15 then (if r15 = 0 then some (0, F15, B15) else if 0 ≤ (F15 14 0 6) ∧ (F15 14 0 6) < 3 then if 0 ≤ (F15 14 0 16) ∧ (F15 14 0 16) < 3001 then if 0 ≤ l1 ∧ l1 < 4 then f_M_voiceText_108 K K ((zup4 B15 13 (F15 14 0 6) 10 l1 (B15 14 0 11 (F15 14 0 16))) 14 0 11 (F15 14 0 16)) 0 l1 F15 (zup4 B15 13 (F15 14 0 6) 10 l1 (B15 14 0 11 (F15 14 0 16))) else none else none else none) else none)
set_option maxHeartbeats 4000000 in
set_option maxRecDepth 100000 in
theorem b_M_voiceText_70 {D : va_G} {ca : Nat → ClassId} {ad : Nat → Int → Nat → Nat} {L : List Nat} {aS vS : Nat → Nat} {A : Nat → Prop} {p : Program} {l : Launch} {e : Env} {s : State} {m : MethodId} {args : Array Value} {below : List Frame} {meth : Method} {c : Code} {K : Nat} {r : Int} {F9 : zF} {B9 : zB} (X : zX D ca L aS vS A p s m args meth c prog_15_method_44_code 5 (Option.none : Option Jvm.ClassFile.FieldType) "StaveHouseModel") {l1 : Int} {F : zF} {B : zB} {H : Heap} {locs : List Loc} {ls : Array Slot} (hf : f_M_voiceText_70 K l1 F B = some (r, F9, B9)) (hZ : zH D ca ad lnM nM L F B A H) (hS : va_S A s.heap H locs) (hl : lv_has ls 5 [(1, .int (iI l1)), (0, .ref (ad 14 0 0))]) : W p l e ({ frames := 47, cells := 0, slots := 0, locals := 1051 } : Room) s m args below meth c H locs 0 0 (MQ below (Q_M_voiceText D ca ad L r F9 B9 A) args s 0 0 A) (F0 m 70 ls []) := by
  obtain ⟨hx, hb, hr, hml, hown, hts, hlk, hK, hA, hL, hX⟩ := id X
  replace hf : (zbind (f_M_good K F B) (fun r15 F15 B15 => if r32 r15 then (if r15 = 0 then some (0, F15, B15) else if 0 ≤ (F15 14 0 6) ∧ (F15 14 0 6) < 3 then if 0 ≤ (F15 14 0 16) ∧ (F15 14 0 16) < 3001 then if 0 ≤ l1 ∧ l1 < 4 then f_M_voiceText_108 K K ((zup4 B15 13 (F15 14 0 6) 10 l1 (B15 14 0 11 (F15 14 0 16))) 14 0 11 (F15 14 0 16)) 0 l1 F15 (zup4 B15 13 (F15 14 0 6) 10 l1 (B15 14 0 11 (F15 14 0 16))) else none else none else none) else none)) = some (r, F9, B9) := hf
  refine lv_aload_n hx hb (D_42 W_prog_15_method_44_code_64 6 rfl rfl) rfl (lv_at hl 1 rfl) ?_
  obtain ⟨r15, F15, B15, hc15, hf⟩ := gbind hf
  refine va_calli (va_runV (As := []) (rest := []) ⟨hx, hb, hml, hown, hts⟩ (c_M_good (l := l) hc15) (cwV 0 hts (gdV k_13_15 k_13_17 ks_152 k_1_9 k_13_18) rfl rfl rfl (by decide +kernel) ⟨Nat.le_of_ble_eq_true rfl, Nat.le_of_ble_eq_true rfl⟩) (zPV X hZ hS (ci := 14) (by decide) (by decide) (r := (RX14, TX14, 107)) rfl []) rfl rfl hl.1 rfl (lv_room (Nat.le_of_ble_eq_true rfl)) (D_182 W_prog_15_method_44_code_64 7 rfl rfl rfl) ⟨Nat.le_of_ble_eq_true rfl, Nat.le_of_ble_eq_true rfl⟩) hS (fun q _ h => zAin X hS q h) (zAin X hS) (fun p15 u15 t15 H15 locs15 ht15 hv15 hw15 hB15 hz15 hk15 hS15 => ?_)
  have hZ15 := zBack X ht15 hB15
  subst hw15
  obtain ⟨g16, hf⟩ := gif hf
  refine z0ne (tgt := 78) hx hb g16 (D_154 W_prog_15_method_44_code_64 10 rfl rfl rfl) (by decide) (fun h17 => ?_) (fun h17 => ?_)
  · replace hf := gneg hf h17
    refine lv_aload_n hx hb (D_42 W_prog_15_method_44_code_64 14 rfl rfl) rfl (lv_at hl 1 rfl) ?_
    refine zget (ci := 14) (C := RX14) (T := TX14) (v := va_rf (zrf ad 13 (F15 14 0 6))) (k := 6) hx hb hts inW_14 hown hK hZ15 (by decide) (by decide) rfl (by decide) k_11_4 rfl (D_180 W_prog_15_method_44_code_64 15 rfl rfl rfl) ?_
    obtain ⟨g18, hf⟩ := gif hf
    refine zunrf g18.1 ?_
    refine zget (ci := 13) (C := RX13) (T := TX13) (v := .ref (ad 13 (F15 14 0 6) (10 + 1))) (k := 10) hx hb hts inW_13 hown hK hZ15 g18.1 g18.2 rfl (by decide) k_9_138 rfl (D_180 W_prog_15_method_44_code_64 18 rfl rfl rfl) ?_
    refine lv_iload_n hx hb (D_27 W_prog_15_method_44_code_64 21 rfl rfl) rfl (lv_at hl 0 rfl) ?_
    refine lv_aload_n hx hb (D_42 W_prog_15_method_44_code_64 22 rfl rfl) rfl (lv_at hl 1 rfl) ?_
    refine zget (ci := 14) (C := RX14) (T := TX14) (v := .ref (ad 14 0 (11 + 1))) (k := 11) hx hb hts inW_14 hown hK hZ15 (by decide) (by decide) rfl (by decide) k_11_9 rfl (D_180 W_prog_15_method_44_code_64 23 rfl rfl rfl) ?_
    refine lv_aload_n hx hb (D_42 W_prog_15_method_44_code_64 26 rfl rfl) rfl (lv_at hl 1 rfl) ?_
    refine zget (ci := 14) (C := RX14) (T := TX14) (v := .int (iI (F15 14 0 16))) (k := 16) hx hb hts inW_14 hown hK hZ15 (by decide) (by decide) rfl (by decide) k_11_14 rfl (D_180 W_prog_15_method_44_code_64 27 rfl rfl rfl) ?_
    obtain ⟨g19, hf⟩ := gif hf
    refine zlald (ci := 14) (k := 11) hx hb hK rfl hZ15 (by decide) (by decide) rfl (Nat.le_of_ble_eq_true rfl) g19.1 g19.2 (D_47 W_prog_15_method_44_code_64 30 rfl rfl) ?_
    obtain ⟨g20, hf⟩ := gif hf
    refine zlast (ci := 13) (k := 10) hx hb hK rfl hZ15 hS15 g18.1 g18.2 rfl (Nat.le_of_ble_eq_true rfl) g20.1 g20.2 (D_80 W_prog_15_method_44_code_64 31 rfl rfl) (fun H21 locs21 hZ21 hS21 => ?_)
    refine lv_iconst (v := iI 0) hx hb (D_3 W_prog_15_method_44_code_96 0 rfl rfl) rfl ?_
    refine lv_istore_n (lv' := [(2, .int (iI 0)), (1, .int (iI l1)), (0, .ref (ad 14 0 0))]) hx hb (D_61 W_prog_15_method_44_code_96 1 rfl rfl) rfl hl (by decide) rfl (fun ls hl => ?_)
    refine lv_aload_n hx hb (D_42 W_prog_15_method_44_code_96 2 rfl rfl) rfl (lv_at hl 2 rfl) ?_
    refine zget (ci := 14) (C := RX14) (T := TX14) (v := .ref (ad 14 0 (11 + 1))) (k := 11) hx hb hts inW_14 hown hK hZ21 (by decide) (by decide) rfl (by decide) k_11_9 rfl (D_180 W_prog_15_method_44_code_96 3 rfl rfl rfl) ?_
    refine lv_aload_n hx hb (D_42 W_prog_15_method_44_code_96 6 rfl rfl) rfl (lv_at hl 2 rfl) ?_
    refine zget (ci := 14) (C := RX14) (T := TX14) (v := .int (iI (F15 14 0 16))) (k := 16) hx hb hts inW_14 hown hK hZ21 (by decide) (by decide) rfl (by decide) k_11_14 rfl (D_180 W_prog_15_method_44_code_96 7 rfl rfl rfl) ?_
    refine zlald (ci := 14) (k := 11) hx hb hK rfl hZ21 (by decide) (by decide) rfl (Nat.le_of_ble_eq_true rfl) g19.1 g19.2 (D_47 W_prog_15_method_44_code_96 10 rfl rfl) ?_
    refine lv_lstore_n (lv' := [(3, .long (lI ((zup4 B15 13 (F15 14 0 6) 10 l1 (B15 14 0 11 (F15 14 0 16))) 14 0 11 (F15 14 0 16)))), (2, .int (iI 0)), (1, .int (iI l1)), (0, .ref (ad 14 0 0))]) hx hb (D_66 W_prog_15_method_44_code_96 11 rfl rfl) rfl hl (by decide) rfl (fun ls hl => ?_)
    exact b_M_voiceText_108 X hf hZ21 hS21 (lv_sub hl [0, 1, 2, 3] rfl)
  · replace hf := gpos hf h17
    cases hf
    exact W.vret hx hb hr (fun t ht hW => ⟨⟨(), rfl, trivial, by rw [ht]; exact hZ15, va_K.moved hW.alike hK⟩, hS15.F ht⟩) hS15.2.2 (D_177 W_prog_15_method_44_code_64 13 rfl rfl) hlk

def f_M_voiceText (K : Nat)  (F : zF) (B : zB) : zO := if 0 ≤ (F 14 0 6) ∧ (F 14 0 6) < 3 then if 0 ≤ (F 13 (F 14 0 6) 1) ∧ (F 13 (F 14 0 6) 1) < 4 then zbind (f_M_isName K (zup3 F 14 0 16 ((F 14 0 16) + 1)) (zup4 B 14 0 28 (F 13 (F 14 0 6) 1) (F 14 0 16))) (fun r5 F5 B5 => if r32 r5 then (if r5 = 0 then zbind (f_M_wrong K F5 B5) (fun r14 F14 B14 => f_M_voiceText_70 K (F 13 (F 14 0 6) 1) F14 B14) else if 0 ≤ (F5 14 0 6) ∧ (F5 14 0 6) < 3 then if 0 ≤ (F5 14 0 16) ∧ (F5 14 0 16) < 3001 then zbind (f_M_find K 13 (F5 14 0 6) 10 (F 13 (F 14 0 6) 1) (B5 14 0 11 (F5 14 0 16)) F5 B5) (fun r10 F10 B10 => if r32 r10 then (if r10 < 0 then f_M_voiceText_70 K (F 13 (F 14 0 6) 1) F10 B10 else zbind (f_M_fail K 4 F10 B10) (fun r13 F13 B13 => f_M_voiceText_70 K (F 13 (F 14 0 6) 1) F13 B13)) else none) else none else none) else none) else none else none
set_option maxHeartbeats 4000000 in
set_option maxRecDepth 100000 in
theorem c_M_voiceText {l : Launch} {D : va_G} {ca : Nat → ClassId} {ad : Nat → Int → Nat → Nat} {L : List Nat} {aS vS : Nat → Nat} {sz K : Nat}   {F F9 : zF} {B B9 : zB} {r : Int} (hf : f_M_voiceText K  F B = some (r, F9, B9)) : Met l ({ cls := "StaveHouseModel", name := "voiceText", desc := "()V" } : Jvm.MethodName) (Cond.code ({ cls := "StaveHouseModel", name := "voiceText", desc := "()V" } : Jvm.MethodName) prog_15_method_44_code 5 (Option.none : Option Jvm.ClassFile.FieldType) :: wAll) ({ frames := 47, cells := 0, slots := 0, locals := 1051 } : Room) (va_Pc [.ref (ad 14 0 0)] (zPre D ca ad lnM nM L aS vS F B sz)) (Q_M_voiceText D ca ad L r F9 B9 (zA L sz)) 0 0 (zA L sz) := by
  refine zMet (Qc := Q_M_voiceText D ca ad L r F9 B9) (lv := [(0, .ref (ad 14 0 0))]) (by decide) (Nat.le_of_ble_eq_true rfl) rfl (fun A p e s m below meth c ls X hZ hS hl => ?_)
  obtain ⟨hx, hb, hr, hml, hown, hts, hlk, hK, hA, hL, hX⟩ := id X
  replace hf : (if 0 ≤ (F 14 0 6) ∧ (F 14 0 6) < 3 then if 0 ≤ (F 13 (F 14 0 6) 1) ∧ (F 13 (F 14 0 6) 1) < 4 then zbind (f_M_isName K (zup3 F 14 0 16 ((F 14 0 16) + 1)) (zup4 B 14 0 28 (F 13 (F 14 0 6) 1) (F 14 0 16))) (fun r5 F5 B5 => if r32 r5 then (if r5 = 0 then zbind (f_M_wrong K F5 B5) (fun r14 F14 B14 => f_M_voiceText_70 K (F 13 (F 14 0 6) 1) F14 B14) else if 0 ≤ (F5 14 0 6) ∧ (F5 14 0 6) < 3 then if 0 ≤ (F5 14 0 16) ∧ (F5 14 0 16) < 3001 then zbind (f_M_find K 13 (F5 14 0 6) 10 (F 13 (F 14 0 6) 1) (B5 14 0 11 (F5 14 0 16)) F5 B5) (fun r10 F10 B10 => if r32 r10 then (if r10 < 0 then f_M_voiceText_70 K (F 13 (F 14 0 6) 1) F10 B10 else zbind (f_M_fail K 4 F10 B10) (fun r13 F13 B13 => f_M_voiceText_70 K (F 13 (F 14 0 6) 1) F13 B13)) else none) else none else none) else none) else none else none) = some (r, F9, B9) := hf
  refine lv_aload_n hx hb (D_42 W_prog_15_method_44_code_0 0 rfl rfl) rfl (lv_at hl 0 rfl) ?_
  refine zget (ci := 14) (C := RX14) (T := TX14) (v := va_rf (zrf ad 13 (F 14 0 6))) (k := 6) hx hb hts inW_14 hown hK hZ (by decide) (by decide) rfl (by decide) k_11_4 rfl (D_180 W_prog_15_method_44_code_0 1 rfl rfl rfl) ?_
  obtain ⟨g1, hf⟩ := gif hf
  refine zunrf g1.1 ?_
  refine zget (ci := 13) (C := RX13) (T := TX13) (v := .int (iI (F 13 (F 14 0 6) 1))) (k := 1) hx hb hts inW_13 hown hK hZ g1.1 g1.2 rfl (by decide) k_9_126 rfl (D_180 W_prog_15_method_44_code_0 4 rfl rfl rfl) ?_
  refine lv_istore_n (lv' := [(1, .int (iI (F 13 (F 14 0 6) 1))), (0, .ref (ad 14 0 0))]) hx hb (D_60 W_prog_15_method_44_code_0 7 rfl rfl) rfl hl (by decide) rfl (fun ls hl => ?_)
  refine lv_aload_n hx hb (D_42 W_prog_15_method_44_code_0 8 rfl rfl) rfl (lv_at hl 1 rfl) ?_
  refine zget (ci := 14) (C := RX14) (T := TX14) (v := .ref (ad 14 0 (28 + 1))) (k := 28) hx hb hts inW_14 hown hK hZ (by decide) (by decide) rfl (by decide) k_11_26 rfl (D_180 W_prog_15_method_44_code_0 9 rfl rfl rfl) ?_
  refine lv_iload_n hx hb (D_27 W_prog_15_method_44_code_0 12 rfl rfl) rfl (lv_at hl 0 rfl) ?_
  refine lv_aload_n hx hb (D_42 W_prog_15_method_44_code_0 13 rfl rfl) rfl (lv_at hl 1 rfl) ?_
  refine zget (ci := 14) (C := RX14) (T := TX14) (v := .int (iI (F 14 0 16))) (k := 16) hx hb hts inW_14 hown hK hZ (by decide) (by decide) rfl (by decide) k_11_14 rfl (D_180 W_prog_15_method_44_code_0 14 rfl rfl rfl) ?_
  obtain ⟨g2, hf⟩ := gif hf
  refine zast (ci := 14) (k := 28) hx hb hK rfl hZ hS (by decide) (by decide) rfl (Nat.le_of_ble_eq_true rfl) g2.1 g2.2 (D_79 W_prog_15_method_44_code_0 17 rfl rfl) (fun H3 locs3 hZ3 hS3 => ?_)
  refine lv_aload_n hx hb (D_42 W_prog_15_method_44_code_0 18 rfl rfl) rfl (lv_at hl 1 rfl) ?_
  refine lv_dup hx hb (D_89 W_prog_15_method_44_code_0 19 rfl rfl) rfl ?_
  refine zget (ci := 14) (C := RX14) (T := TX14) (v := .int (iI (F 14 0 16))) (k := 16) hx hb hts inW_14 hown hK hZ3 (by decide) (by decide) rfl (by decide) k_11_14 rfl (D_180 W_prog_15_method_44_code_0 20 rfl rfl rfl) ?_
  refine lv_iconst (v := iI 1) hx hb (D_4 W_prog_15_method_44_code_0 23 rfl rfl) rfl ?_
  refine zadd hx hb (D_96 W_prog_15_method_44_code_0 24 rfl rfl) ?_
  refine zput (ci := 14) (C := RX14) (T := TX14) (k := 16) (v := ((F 14 0 16) + 1)) (w := .int (iI ((F 14 0 16) + 1))) hx hb hts inW_14 tyX14 tyX14_ok nmX14 hown hK hZ3 hS3 (by decide) (by decide) rfl (by decide) k_11_14 rfl (fun G h => congrArg (fun q => Value.int (iI q)) h) rfl rfl (zno (by decide)) (D_181 W_prog_15_method_44_code_0 25 rfl rfl rfl) (fun H4 locs4 hZ4 hS4 => ?_)
  refine lv_aload_n hx hb (D_42 W_prog_15_method_44_code_0 28 rfl rfl) rfl (lv_at hl 1 rfl) ?_
  obtain ⟨r5, F5, B5, hc5, hf⟩ := gbind hf
  refine va_calli (va_runV (As := []) (rest := []) ⟨hx, hb, hml, hown, hts⟩ (c_M_isName (l := l) hc5) (cwV 0 hts (gdV k_14_152 k_14_154 ks_210 k_1_9 k_14_155) rfl rfl rfl (by decide +kernel) ⟨Nat.le_of_ble_eq_true rfl, Nat.le_of_ble_eq_true rfl⟩) (zPV X hZ4 hS4 (ci := 14) (by decide) (by decide) (r := (RX14, TX14, 107)) rfl []) rfl rfl hl.1 rfl (lv_room (Nat.le_of_ble_eq_true rfl)) (D_182 W_prog_15_method_44_code_0 29 rfl rfl rfl) ⟨Nat.le_of_ble_eq_true rfl, Nat.le_of_ble_eq_true rfl⟩) hS4 (fun q _ h => zAin X hS4 q h) (zAin X hS4) (fun p5 u5 t5 H5 locs5 ht5 hv5 hw5 hB5 hz5 hk5 hS5 => ?_)
  have hZ5 := zBack X ht5 hB5
  subst hw5
  obtain ⟨g6, hf⟩ := gif hf
  refine z0ne (tgt := 42) hx hb g6 (D_154 W_prog_15_method_44_code_32 0 rfl rfl rfl) (by decide) (fun h7 => ?_) (fun h7 => ?_)
  · replace hf := gneg hf h7
    refine lv_aload_n hx hb (D_42 W_prog_15_method_44_code_32 10 rfl rfl) rfl (lv_at hl 1 rfl) ?_
    refine zget (ci := 14) (C := RX14) (T := TX14) (v := va_rf (zrf ad 13 (F5 14 0 6))) (k := 6) hx hb hts inW_14 hown hK hZ5 (by decide) (by decide) rfl (by decide) k_11_4 rfl (D_180 W_prog_15_method_44_code_32 11 rfl rfl rfl) ?_
    obtain ⟨g8, hf⟩ := gif hf
    refine zunrf g8.1 ?_
    refine zget (ci := 13) (C := RX13) (T := TX13) (v := .ref (ad 13 (F5 14 0 6) (10 + 1))) (k := 10) hx hb hts inW_13 hown hK hZ5 g8.1 g8.2 rfl (by decide) k_9_138 rfl (D_180 W_prog_15_method_44_code_32 14 rfl rfl rfl) ?_
    refine lv_iload_n hx hb (D_27 W_prog_15_method_44_code_32 17 rfl rfl) rfl (lv_at hl 0 rfl) ?_
    refine lv_aload_n hx hb (D_42 W_prog_15_method_44_code_32 18 rfl rfl) rfl (lv_at hl 1 rfl) ?_
    refine zget (ci := 14) (C := RX14) (T := TX14) (v := .ref (ad 14 0 (11 + 1))) (k := 11) hx hb hts inW_14 hown hK hZ5 (by decide) (by decide) rfl (by decide) k_11_9 rfl (D_180 W_prog_15_method_44_code_32 19 rfl rfl rfl) ?_
    refine lv_aload_n hx hb (D_42 W_prog_15_method_44_code_32 22 rfl rfl) rfl (lv_at hl 1 rfl) ?_
    refine zget (ci := 14) (C := RX14) (T := TX14) (v := .int (iI (F5 14 0 16))) (k := 16) hx hb hts inW_14 hown hK hZ5 (by decide) (by decide) rfl (by decide) k_11_14 rfl (D_180 W_prog_15_method_44_code_32 23 rfl rfl rfl) ?_
    obtain ⟨g9, hf⟩ := gif hf
    refine zlald (ci := 14) (k := 11) hx hb hK rfl hZ5 (by decide) (by decide) rfl (Nat.le_of_ble_eq_true rfl) g9.1 g9.2 (D_47 W_prog_15_method_44_code_32 26 rfl rfl) ?_
    obtain ⟨r10, F10, B10, hc10, hf⟩ := gbind hf
    refine va_calli (va_runS (As := [.ref (ad 13 (F5 14 0 6) (10 + 1)), .int (iI (F 13 (F 14 0 6) 1)), .long (lI (B5 14 0 11 (F5 14 0 16)))]) (rest := []) ⟨hx, hb, hml, hown, hts⟩ (c_M_find (l := l) hc10) (va_cwS 3 hts (gdS k_14_156 k_14_157 k_1_9 k_14_158) rfl rfl rfl (by decide +kernel) ⟨Nat.le_of_ble_eq_true rfl, Nat.le_of_ble_eq_true rfl⟩) (zPS X hZ5 hS5 [.ref (ad 13 (F5 14 0 6) (10 + 1)), .int (iI (F 13 (F 14 0 6) 1)), .long (lI (B5 14 0 11 (F5 14 0 16)))]) rfl rfl hl.1 rfl (lv_room (Nat.le_of_ble_eq_true rfl)) (D_184 W_prog_15_method_44_code_32 27 rfl rfl rfl) ⟨Nat.le_of_ble_eq_true rfl, Nat.le_of_ble_eq_true rfl⟩) hS5 (fun q _ h => zAin X hS5 q h) (zAin X hS5) (fun p10 u10 t10 H10 locs10 ht10 hv10 hw10 hB10 hz10 hk10 hS10 => ?_)
    have hZ10 := zBack X ht10 hB10
    subst hw10
    obtain ⟨g11, hf⟩ := gif hf
    refine z0lt (tgt := 70) hx hb g11 (D_155 W_prog_15_method_44_code_32 30 rfl rfl rfl) (by decide) (fun h12 => ?_) (fun h12 => ?_)
    · replace hf := gpos hf h12
      exact b_M_voiceText_70 X hf hZ10 hS10 (lv_sub hl [0, 1] rfl)
    · replace hf := gneg hf h12
      refine lv_aload_n hx hb (D_42 W_prog_15_method_44_code_64 1 rfl rfl) rfl (lv_at hl 1 rfl) ?_
      refine lv_iconst (v := iI 4) hx hb (D_7 W_prog_15_method_44_code_64 2 rfl rfl) rfl ?_
      obtain ⟨r13, F13, B13, hc13, hf⟩ := gbind hf
      refine va_callv (va_runV (As := [.int (iI 4)]) (rest := []) ⟨hx, hb, hml, hown, hts⟩ (c_M_fail (l := l) hc13) (cwV 1 hts (gdV k_14_128 k_14_130 ks_204 k_1_9 k_14_131) rfl rfl rfl (by decide +kernel) ⟨Nat.le_of_ble_eq_true rfl, Nat.le_of_ble_eq_true rfl⟩) (zPV X hZ10 hS10 (ci := 14) (by decide) (by decide) (r := (RX14, TX14, 107)) rfl [.int (iI 4)]) rfl rfl hl.1 rfl (lv_room (Nat.le_of_ble_eq_true rfl)) (D_182 W_prog_15_method_44_code_64 3 rfl rfl rfl) ⟨Nat.le_of_ble_eq_true rfl, Nat.le_of_ble_eq_true rfl⟩) hS10 (fun q _ h => zAin X hS10 q h) (zAin X hS10) (fun u13 t13 H13 locs13 ht13 hv13 hw13 hB13 hz13 hk13 hS13 => ?_)
      have hZ13 := zBack X ht13 hB13
      exact b_M_voiceText_70 X hf hZ13 hS13 (lv_sub hl [0, 1] rfl)
  · replace hf := gpos hf h7
    refine lv_aload_n hx hb (D_42 W_prog_15_method_44_code_32 3 rfl rfl) rfl (lv_at hl 1 rfl) ?_
    obtain ⟨r14, F14, B14, hc14, hf⟩ := gbind hf
    refine va_callv (va_runV (As := []) (rest := []) ⟨hx, hb, hml, hown, hts⟩ (c_M_wrong (l := l) hc14) (cwV 0 hts (gdV k_14_124 k_14_126 ks_203 k_1_9 k_14_127) rfl rfl rfl (by decide +kernel) ⟨Nat.le_of_ble_eq_true rfl, Nat.le_of_ble_eq_true rfl⟩) (zPV X hZ5 hS5 (ci := 14) (by decide) (by decide) (r := (RX14, TX14, 107)) rfl []) rfl rfl hl.1 rfl (lv_room (Nat.le_of_ble_eq_true rfl)) (D_182 W_prog_15_method_44_code_32 4 rfl rfl rfl) ⟨Nat.le_of_ble_eq_true rfl, Nat.le_of_ble_eq_true rfl⟩) hS5 (fun q _ h => zAin X hS5 q h) (zAin X hS5) (fun u14 t14 H14 locs14 ht14 hv14 hw14 hB14 hz14 hk14 hS14 => ?_)
    have hZ14 := zBack X ht14 hB14
    refine lv_goto (tgt := 70) hx hb (D_167 W_prog_15_method_44_code_32 7 rfl rfl rfl) (by decide) ?_
    exact b_M_voiceText_70 X hf hZ14 hS14 (lv_sub hl [0, 1] rfl)

