theorem k_9_124 : (Jvm.Cond.methodLink "StaveHouseModel$Piece" (1 : Nat) ({ cls := "java/lang/Object", name := "<init>", desc := "()V" } : Jvm.MethodName)) ∈ wAll := wA_9 (j := 124) rfl rfl
theorem k_9_133 : (Jvm.Cond.fieldLink "StaveHouseModel$Piece" (7 : Nat) "StaveHouseModel$Piece" "clef" "[I") ∈ wAll := wA_9 (j := 133) rfl rfl
theorem k_9_135 : (Jvm.Cond.fieldLink "StaveHouseModel$Piece" (13 : Nat) "StaveHouseModel$Piece" "number" "[I") ∈ wAll := wA_9 (j := 135) rfl rfl
theorem k_9_137 : (Jvm.Cond.fieldLink "StaveHouseModel$Piece" (16 : Nat) "StaveHouseModel$Piece" "name" "[J") ∈ wAll := wA_9 (j := 137) rfl rfl
theorem k_9_139 : (Jvm.Cond.fieldLink "StaveHouseModel$Piece" (20 : Nat) "StaveHouseModel$Piece" "letters" "[I") ∈ wAll := wA_9 (j := 139) rfl rfl
theorem k_9_141 : (Jvm.Cond.fieldLink "StaveHouseModel$Piece" (23 : Nat) "StaveHouseModel$Piece" "events" "[I") ∈ wAll := wA_9 (j := 141) rfl rfl
theorem k_9_143 : (Jvm.Cond.fieldLink "StaveHouseModel$Piece" (26 : Nat) "StaveHouseModel$Piece" "notes" "[I") ∈ wAll := wA_9 (j := 143) rfl rfl
theorem k_9_145 : (Jvm.Cond.fieldLink "StaveHouseModel$Piece" (29 : Nat) "StaveHouseModel$Piece" "up" "[J") ∈ wAll := wA_9 (j := 145) rfl rfl
theorem k_9_147 : (Jvm.Cond.fieldLink "StaveHouseModel$Piece" (32 : Nat) "StaveHouseModel$Piece" "down" "[J") ∈ wAll := wA_9 (j := 147) rfl rfl
theorem k_9_149 : (Jvm.Cond.fieldLink "StaveHouseModel$Piece" (35 : Nat) "StaveHouseModel$Piece" "lengthUp" "[J") ∈ wAll := wA_9 (j := 149) rfl rfl
theorem k_9_151 : (Jvm.Cond.fieldLink "StaveHouseModel$Piece" (38 : Nat) "StaveHouseModel$Piece" "lengthDown" "[J") ∈ wAll := wA_9 (j := 151) rfl rfl
theorem k_9_153 : (Jvm.Cond.fieldLink "StaveHouseModel$Piece" (41 : Nat) "StaveHouseModel$Piece" "marks" "[I") ∈ wAll := wA_9 (j := 153) rfl rfl
theorem k_9_155 : (Jvm.Cond.fieldLink "StaveHouseModel$Piece" (44 : Nat) "StaveHouseModel$Piece" "loud" "[I") ∈ wAll := wA_9 (j := 155) rfl rfl
theorem k_9_157 : (Jvm.Cond.fieldLink "StaveHouseModel$Piece" (47 : Nat) "StaveHouseModel$Piece" "token" "[I") ∈ wAll := wA_9 (j := 157) rfl rfl
theorem k_9_159 : (Jvm.Cond.fieldLink "StaveHouseModel$Piece" (50 : Nat) "StaveHouseModel$Piece" "many" "[I") ∈ wAll := wA_9 (j := 159) rfl rfl
theorem k_9_161 : (Jvm.Cond.fieldLink "StaveHouseModel$Piece" (53 : Nat) "StaveHouseModel$Piece" "inside" "[I") ∈ wAll := wA_9 (j := 161) rfl rfl
theorem k_9_163 : (Jvm.Cond.fieldLink "StaveHouseModel$Piece" (56 : Nat) "StaveHouseModel$Piece" "ratioUp" "[I") ∈ wAll := wA_9 (j := 163) rfl rfl
theorem k_9_165 : (Jvm.Cond.fieldLink "StaveHouseModel$Piece" (59 : Nat) "StaveHouseModel$Piece" "ratioDown" "[I") ∈ wAll := wA_9 (j := 165) rfl rfl
theorem k_9_167 : (Jvm.Cond.fieldLink "StaveHouseModel$Piece" (62 : Nat) "StaveHouseModel$Piece" "outer" "[I") ∈ wAll := wA_9 (j := 167) rfl rfl
theorem k_9_169 : (Jvm.Cond.fieldLink "StaveHouseModel$Piece" (65 : Nat) "StaveHouseModel$Piece" "outerToken" "[I") ∈ wAll := wA_9 (j := 169) rfl rfl
theorem k_9_171 : (Jvm.Cond.fieldLink "StaveHouseModel$Piece" (68 : Nat) "StaveHouseModel$Piece" "slur" "[Z") ∈ wAll := wA_9 (j := 171) rfl rfl
theorem k_9_173 : (Jvm.Cond.fieldLink "StaveHouseModel$Piece" (72 : Nat) "StaveHouseModel$Piece" "step" "[I") ∈ wAll := wA_9 (j := 173) rfl rfl
theorem k_9_175 : (Jvm.Cond.fieldLink "StaveHouseModel$Piece" (75 : Nat) "StaveHouseModel$Piece" "alt" "[I") ∈ wAll := wA_9 (j := 175) rfl rfl
theorem k_9_177 : (Jvm.Cond.fieldLink "StaveHouseModel$Piece" (78 : Nat) "StaveHouseModel$Piece" "of" "[I") ∈ wAll := wA_9 (j := 177) rfl rfl
theorem k_9_179 : (Jvm.Cond.fieldLink "StaveHouseModel$Piece" (81 : Nat) "StaveHouseModel$Piece" "bar" "[I") ∈ wAll := wA_9 (j := 179) rfl rfl
theorem k_9_181 : (Jvm.Cond.fieldLink "StaveHouseModel$Piece" (84 : Nat) "StaveHouseModel$Piece" "inUp" "[J") ∈ wAll := wA_9 (j := 181) rfl rfl
theorem k_9_183 : (Jvm.Cond.fieldLink "StaveHouseModel$Piece" (87 : Nat) "StaveHouseModel$Piece" "inDown" "[J") ∈ wAll := wA_9 (j := 183) rfl rfl
theorem k_9_185 : (Jvm.Cond.fieldLink "StaveHouseModel$Piece" (90 : Nat) "StaveHouseModel$Piece" "form" "[I") ∈ wAll := wA_9 (j := 185) rfl rfl
theorem k_9_187 : (Jvm.Cond.fieldLink "StaveHouseModel$Piece" (93 : Nat) "StaveHouseModel$Piece" "points" "[I") ∈ wAll := wA_9 (j := 187) rfl rfl
theorem k_9_189 : (Jvm.Cond.fieldLink "StaveHouseModel$Piece" (96 : Nat) "StaveHouseModel$Piece" "held" "[I") ∈ wAll := wA_9 (j := 189) rfl rfl
theorem k_9_191 : (Jvm.Cond.fieldLink "StaveHouseModel$Piece" (99 : Nat) "StaveHouseModel$Piece" "accidentals" "[I") ∈ wAll := wA_9 (j := 191) rfl rfl
theorem k_9_193 : (Jvm.Cond.fieldLink "StaveHouseModel$Piece" (102 : Nat) "StaveHouseModel$Piece" "ledgers" "[I") ∈ wAll := wA_9 (j := 193) rfl rfl
theorem k_9_195 : (Jvm.Cond.fieldLink "StaveHouseModel$Piece" (105 : Nat) "StaveHouseModel$Piece" "group" "[I") ∈ wAll := wA_9 (j := 195) rfl rfl
theorem k_9_197 : (Jvm.Cond.fieldLink "StaveHouseModel$Piece" (108 : Nat) "StaveHouseModel$Piece" "beams" "[I") ∈ wAll := wA_9 (j := 197) rfl rfl
theorem k_9_199 : (Jvm.Cond.fieldLink "StaveHouseModel$Piece" (111 : Nat) "StaveHouseModel$Piece" "stem" "[I") ∈ wAll := wA_9 (j := 199) rfl rfl
theorem k_9_201 : (Jvm.Cond.fieldLink "StaveHouseModel$Piece" (114 : Nat) "StaveHouseModel$Piece" "firstColumn" "[I") ∈ wAll := wA_9 (j := 201) rfl rfl
theorem k_9_203 : (Jvm.Cond.fieldLink "StaveHouseModel$Piece" (117 : Nat) "StaveHouseModel$Piece" "columnUp" "[J") ∈ wAll := wA_9 (j := 203) rfl rfl
theorem k_9_205 : (Jvm.Cond.fieldLink "StaveHouseModel$Piece" (120 : Nat) "StaveHouseModel$Piece" "columnDown" "[J") ∈ wAll := wA_9 (j := 205) rfl rfl
theorem k_9_207 : (Jvm.Cond.fieldLink "StaveHouseModel$Piece" (123 : Nat) "StaveHouseModel$Piece" "columnWide" "[I") ∈ wAll := wA_9 (j := 207) rfl rfl
theorem k_9_209 : (Jvm.Cond.fieldLink "StaveHouseModel$Piece" (126 : Nat) "StaveHouseModel$Piece" "barWide" "[I") ∈ wAll := wA_9 (j := 209) rfl rfl
theorem k_9_213 : (Jvm.Cond.fieldLink "StaveHouseModel$Piece" (129 : Nat) "StaveHouseModel$Piece" "lineBar" "[I") ∈ wAll := wA_9 (j := 213) rfl rfl
theorem k_9_215 : (Jvm.Cond.fieldLink "StaveHouseModel$Piece" (132 : Nat) "StaveHouseModel$Piece" "lineBars" "[I") ∈ wAll := wA_9 (j := 215) rfl rfl
theorem k_9_217 : (Jvm.Cond.fieldLink "StaveHouseModel$Piece" (135 : Nat) "StaveHouseModel$Piece" "lineWide" "[I") ∈ wAll := wA_9 (j := 217) rfl rfl
theorem k_9_219 : (Jvm.Cond.fieldLink "StaveHouseModel$Piece" (138 : Nat) "StaveHouseModel$Piece" "linePrice" "[J") ∈ wAll := wA_9 (j := 219) rfl rfl
theorem k_9_223 : (Jvm.Cond.fieldLink "StaveHouseModel$Piece" (141 : Nat) "StaveHouseModel$Piece" "begins" "[I") ∈ wAll := wA_9 (j := 223) rfl rfl
theorem k_9_225 : (Jvm.Cond.fieldLink "StaveHouseModel$Piece" (144 : Nat) "StaveHouseModel$Piece" "ends" "[I") ∈ wAll := wA_9 (j := 225) rfl rfl
theorem k_9_227 : (Jvm.Cond.fieldLink "StaveHouseModel$Piece" (147 : Nat) "StaveHouseModel$Piece" "tone" "[I") ∈ wAll := wA_9 (j := 227) rfl rfl
theorem k_9_229 : (Jvm.Cond.fieldLink "StaveHouseModel$Piece" (150 : Nat) "StaveHouseModel$Piece" "force" "[I") ∈ wAll := wA_9 (j := 229) rfl rfl
theorem k_9_231 : (Jvm.Cond.fieldLink "StaveHouseModel$Piece" (153 : Nat) "StaveHouseModel$Piece" "voiceOf" "[I") ∈ wAll := wA_9 (j := 231) rfl rfl
theorem k_9_234 : (Jvm.Cond.fieldLink "StaveHouseModel$Piece" (156 : Nat) "StaveHouseModel$Piece" "strokeTick" "[I") ∈ wAll := wA_9 (j := 234) rfl rfl
theorem k_9_236 : (Jvm.Cond.fieldLink "StaveHouseModel$Piece" (159 : Nat) "StaveHouseModel$Piece" "strokeVoice" "[I") ∈ wAll := wA_9 (j := 236) rfl rfl
theorem k_9_238 : (Jvm.Cond.fieldLink "StaveHouseModel$Piece" (162 : Nat) "StaveHouseModel$Piece" "strokeTone" "[I") ∈ wAll := wA_9 (j := 238) rfl rfl
theorem k_10_0 : (Jvm.Cond.fieldLink "StaveHouseModel$Piece" (165 : Nat) "StaveHouseModel$Piece" "strokeForce" "[I") ∈ wAll := wA_10 (j := 0) rfl rfl
theorem k_10_7 : (Jvm.Cond.fieldLink "StaveHouseModel$Piece" (168 : Nat) "StaveHouseModel$Piece" "heard" "[I") ∈ wAll := wA_10 (j := 7) rfl rfl
theorem k_10_9 : (Jvm.Cond.fieldLink "StaveHouseModel$Piece" (171 : Nat) "StaveHouseModel$Piece" "codes" "[I") ∈ wAll := wA_10 (j := 9) rfl rfl
theorem k_10_12 : (Jvm.Cond.fieldLink "StaveHouseModel$Piece" (174 : Nat) "StaveHouseModel$Piece" "momentUp" "[J") ∈ wAll := wA_10 (j := 12) rfl rfl
theorem k_10_14 : (Jvm.Cond.fieldLink "StaveHouseModel$Piece" (177 : Nat) "StaveHouseModel$Piece" "momentDown" "[J") ∈ wAll := wA_10 (j := 14) rfl rfl
theorem k_10_16 : (Jvm.Cond.fieldLink "StaveHouseModel$Piece" (180 : Nat) "StaveHouseModel$Piece" "lies" "[I") ∈ wAll := wA_10 (j := 16) rfl rfl
theorem k_10_19 : (Jvm.Cond.fieldLink "StaveHouseModel$Piece" (183 : Nat) "StaveHouseModel$Piece" "faultMoment" "[I") ∈ wAll := wA_10 (j := 19) rfl rfl
theorem k_10_21 : (Jvm.Cond.fieldLink "StaveHouseModel$Piece" (186 : Nat) "StaveHouseModel$Piece" "faultKind" "[I") ∈ wAll := wA_10 (j := 21) rfl rfl
theorem k_10_23 : (Jvm.Cond.fieldLink "StaveHouseModel$Piece" (189 : Nat) "StaveHouseModel$Piece" "faultFirst" "[I") ∈ wAll := wA_10 (j := 23) rfl rfl
theorem k_10_25 : (Jvm.Cond.fieldLink "StaveHouseModel$Piece" (192 : Nat) "StaveHouseModel$Piece" "faultSecond" "[I") ∈ wAll := wA_10 (j := 25) rfl rfl
theorem W_prog_16_method_1_code_0 : chW prog_16_method_1_code 0 [42, 183, 0, 1, 42, 7, 188, 10, 181, 0, 7, 42, 7, 188, 10, 181, 0, 13, 42, 7, 188, 11, 181, 0, 16, 42, 7, 188, 10, 181, 0, 20, 42, 7, 188, 10] := chW_of (by decide +kernel)
theorem d_16_1_0 : decode prog_16_method_1_code 0 = .ok (.aload_n 0, 1) := D_42 W_prog_16_method_1_code_0 0 rfl rfl
theorem d_16_1_1 : decode prog_16_method_1_code 1 = .ok (.invokespecial 1, 3) := D_183 W_prog_16_method_1_code_0 1 rfl rfl rfl
theorem d_16_1_4 : decode prog_16_method_1_code 4 = .ok (.aload_n 0, 1) := D_42 W_prog_16_method_1_code_0 4 rfl rfl
theorem d_16_1_5 : decode prog_16_method_1_code 5 = .ok (.iconst 4, 1) := D_7 W_prog_16_method_1_code_0 5 rfl rfl
theorem d_16_1_6 : decode prog_16_method_1_code 6 = .ok (.newarray .int, 2) := D_188_10 W_prog_16_method_1_code_0 6 rfl rfl
theorem d_16_1_8 : decode prog_16_method_1_code 8 = .ok (.putfield 7, 3) := D_181 W_prog_16_method_1_code_0 8 rfl rfl rfl
theorem d_16_1_11 : decode prog_16_method_1_code 11 = .ok (.aload_n 0, 1) := D_42 W_prog_16_method_1_code_0 11 rfl rfl
theorem d_16_1_12 : decode prog_16_method_1_code 12 = .ok (.iconst 4, 1) := D_7 W_prog_16_method_1_code_0 12 rfl rfl
theorem d_16_1_13 : decode prog_16_method_1_code 13 = .ok (.newarray .int, 2) := D_188_10 W_prog_16_method_1_code_0 13 rfl rfl
theorem d_16_1_15 : decode prog_16_method_1_code 15 = .ok (.putfield 13, 3) := D_181 W_prog_16_method_1_code_0 15 rfl rfl rfl
theorem d_16_1_18 : decode prog_16_method_1_code 18 = .ok (.aload_n 0, 1) := D_42 W_prog_16_method_1_code_0 18 rfl rfl
theorem d_16_1_19 : decode prog_16_method_1_code 19 = .ok (.iconst 4, 1) := D_7 W_prog_16_method_1_code_0 19 rfl rfl
theorem d_16_1_20 : decode prog_16_method_1_code 20 = .ok (.newarray .long, 2) := D_188_11 W_prog_16_method_1_code_0 20 rfl rfl
theorem d_16_1_22 : decode prog_16_method_1_code 22 = .ok (.putfield 16, 3) := D_181 W_prog_16_method_1_code_0 22 rfl rfl rfl
theorem d_16_1_25 : decode prog_16_method_1_code 25 = .ok (.aload_n 0, 1) := D_42 W_prog_16_method_1_code_0 25 rfl rfl
theorem d_16_1_26 : decode prog_16_method_1_code 26 = .ok (.iconst 4, 1) := D_7 W_prog_16_method_1_code_0 26 rfl rfl
theorem d_16_1_27 : decode prog_16_method_1_code 27 = .ok (.newarray .int, 2) := D_188_10 W_prog_16_method_1_code_0 27 rfl rfl
theorem d_16_1_29 : decode prog_16_method_1_code 29 = .ok (.putfield 20, 3) := D_181 W_prog_16_method_1_code_0 29 rfl rfl rfl
theorem W_prog_16_method_1_code_32 : chW prog_16_method_1_code 32 [42, 7, 188, 10, 181, 0, 23, 42, 7, 188, 10, 181, 0, 26, 42, 17, 15, 160, 188, 11, 181, 0, 29, 42, 17, 15, 160, 188, 11, 181, 0, 32, 42, 17, 15, 160] := chW_of (by decide +kernel)
theorem d_16_1_32 : decode prog_16_method_1_code 32 = .ok (.aload_n 0, 1) := D_42 W_prog_16_method_1_code_32 0 rfl rfl
theorem d_16_1_33 : decode prog_16_method_1_code 33 = .ok (.iconst 4, 1) := D_7 W_prog_16_method_1_code_32 1 rfl rfl
theorem d_16_1_34 : decode prog_16_method_1_code 34 = .ok (.newarray .int, 2) := D_188_10 W_prog_16_method_1_code_32 2 rfl rfl
theorem d_16_1_36 : decode prog_16_method_1_code 36 = .ok (.putfield 23, 3) := D_181 W_prog_16_method_1_code_32 4 rfl rfl rfl
theorem d_16_1_39 : decode prog_16_method_1_code 39 = .ok (.aload_n 0, 1) := D_42 W_prog_16_method_1_code_32 7 rfl rfl
theorem d_16_1_40 : decode prog_16_method_1_code 40 = .ok (.iconst 4, 1) := D_7 W_prog_16_method_1_code_32 8 rfl rfl
theorem d_16_1_41 : decode prog_16_method_1_code 41 = .ok (.newarray .int, 2) := D_188_10 W_prog_16_method_1_code_32 9 rfl rfl
theorem d_16_1_43 : decode prog_16_method_1_code 43 = .ok (.putfield 26, 3) := D_181 W_prog_16_method_1_code_32 11 rfl rfl rfl
theorem d_16_1_46 : decode prog_16_method_1_code 46 = .ok (.aload_n 0, 1) := D_42 W_prog_16_method_1_code_32 14 rfl rfl
theorem d_16_1_47 : decode prog_16_method_1_code 47 = .ok (.sipush 4000, 3) := D_17 W_prog_16_method_1_code_32 15 rfl rfl rfl
theorem d_16_1_50 : decode prog_16_method_1_code 50 = .ok (.newarray .long, 2) := D_188_11 W_prog_16_method_1_code_32 18 rfl rfl
theorem d_16_1_52 : decode prog_16_method_1_code 52 = .ok (.putfield 29, 3) := D_181 W_prog_16_method_1_code_32 20 rfl rfl rfl
theorem d_16_1_55 : decode prog_16_method_1_code 55 = .ok (.aload_n 0, 1) := D_42 W_prog_16_method_1_code_32 23 rfl rfl
theorem d_16_1_56 : decode prog_16_method_1_code 56 = .ok (.sipush 4000, 3) := D_17 W_prog_16_method_1_code_32 24 rfl rfl rfl
theorem d_16_1_59 : decode prog_16_method_1_code 59 = .ok (.newarray .long, 2) := D_188_11 W_prog_16_method_1_code_32 27 rfl rfl
theorem d_16_1_61 : decode prog_16_method_1_code 61 = .ok (.putfield 32, 3) := D_181 W_prog_16_method_1_code_32 29 rfl rfl rfl
theorem W_prog_16_method_1_code_64 : chW prog_16_method_1_code 64 [42, 17, 15, 160, 188, 11, 181, 0, 35, 42, 17, 15, 160, 188, 11, 181, 0, 38, 42, 17, 15, 160, 188, 10, 181, 0, 41, 42, 17, 15, 160, 188, 10, 181, 0, 44] := chW_of (by decide +kernel)
theorem d_16_1_64 : decode prog_16_method_1_code 64 = .ok (.aload_n 0, 1) := D_42 W_prog_16_method_1_code_64 0 rfl rfl
theorem d_16_1_65 : decode prog_16_method_1_code 65 = .ok (.sipush 4000, 3) := D_17 W_prog_16_method_1_code_64 1 rfl rfl rfl
theorem d_16_1_68 : decode prog_16_method_1_code 68 = .ok (.newarray .long, 2) := D_188_11 W_prog_16_method_1_code_64 4 rfl rfl
theorem d_16_1_70 : decode prog_16_method_1_code 70 = .ok (.putfield 35, 3) := D_181 W_prog_16_method_1_code_64 6 rfl rfl rfl
theorem d_16_1_73 : decode prog_16_method_1_code 73 = .ok (.aload_n 0, 1) := D_42 W_prog_16_method_1_code_64 9 rfl rfl
theorem d_16_1_74 : decode prog_16_method_1_code 74 = .ok (.sipush 4000, 3) := D_17 W_prog_16_method_1_code_64 10 rfl rfl rfl
theorem d_16_1_77 : decode prog_16_method_1_code 77 = .ok (.newarray .long, 2) := D_188_11 W_prog_16_method_1_code_64 13 rfl rfl
theorem d_16_1_79 : decode prog_16_method_1_code 79 = .ok (.putfield 38, 3) := D_181 W_prog_16_method_1_code_64 15 rfl rfl rfl
theorem d_16_1_82 : decode prog_16_method_1_code 82 = .ok (.aload_n 0, 1) := D_42 W_prog_16_method_1_code_64 18 rfl rfl
theorem d_16_1_83 : decode prog_16_method_1_code 83 = .ok (.sipush 4000, 3) := D_17 W_prog_16_method_1_code_64 19 rfl rfl rfl
theorem d_16_1_86 : decode prog_16_method_1_code 86 = .ok (.newarray .int, 2) := D_188_10 W_prog_16_method_1_code_64 22 rfl rfl
theorem d_16_1_88 : decode prog_16_method_1_code 88 = .ok (.putfield 41, 3) := D_181 W_prog_16_method_1_code_64 24 rfl rfl rfl
theorem d_16_1_91 : decode prog_16_method_1_code 91 = .ok (.aload_n 0, 1) := D_42 W_prog_16_method_1_code_64 27 rfl rfl
theorem d_16_1_92 : decode prog_16_method_1_code 92 = .ok (.sipush 4000, 3) := D_17 W_prog_16_method_1_code_64 28 rfl rfl rfl
theorem d_16_1_95 : decode prog_16_method_1_code 95 = .ok (.newarray .int, 2) := D_188_10 W_prog_16_method_1_code_64 31 rfl rfl
theorem W_prog_16_method_1_code_96 : chW prog_16_method_1_code 96 [10, 181, 0, 44, 42, 17, 15, 160, 188, 10, 181, 0, 47, 42, 17, 15, 160, 188, 10, 181, 0, 50, 42, 17, 15, 160, 188, 10, 181, 0, 53, 42, 17, 15, 160, 188] := chW_of (by decide +kernel)
theorem d_16_1_97 : decode prog_16_method_1_code 97 = .ok (.putfield 44, 3) := D_181 W_prog_16_method_1_code_96 1 rfl rfl rfl
theorem d_16_1_100 : decode prog_16_method_1_code 100 = .ok (.aload_n 0, 1) := D_42 W_prog_16_method_1_code_96 4 rfl rfl
theorem d_16_1_101 : decode prog_16_method_1_code 101 = .ok (.sipush 4000, 3) := D_17 W_prog_16_method_1_code_96 5 rfl rfl rfl
theorem d_16_1_104 : decode prog_16_method_1_code 104 = .ok (.newarray .int, 2) := D_188_10 W_prog_16_method_1_code_96 8 rfl rfl
theorem d_16_1_106 : decode prog_16_method_1_code 106 = .ok (.putfield 47, 3) := D_181 W_prog_16_method_1_code_96 10 rfl rfl rfl
theorem d_16_1_109 : decode prog_16_method_1_code 109 = .ok (.aload_n 0, 1) := D_42 W_prog_16_method_1_code_96 13 rfl rfl
theorem d_16_1_110 : decode prog_16_method_1_code 110 = .ok (.sipush 4000, 3) := D_17 W_prog_16_method_1_code_96 14 rfl rfl rfl
theorem d_16_1_113 : decode prog_16_method_1_code 113 = .ok (.newarray .int, 2) := D_188_10 W_prog_16_method_1_code_96 17 rfl rfl
theorem d_16_1_115 : decode prog_16_method_1_code 115 = .ok (.putfield 50, 3) := D_181 W_prog_16_method_1_code_96 19 rfl rfl rfl
theorem d_16_1_118 : decode prog_16_method_1_code 118 = .ok (.aload_n 0, 1) := D_42 W_prog_16_method_1_code_96 22 rfl rfl
theorem d_16_1_119 : decode prog_16_method_1_code 119 = .ok (.sipush 4000, 3) := D_17 W_prog_16_method_1_code_96 23 rfl rfl rfl
theorem d_16_1_122 : decode prog_16_method_1_code 122 = .ok (.newarray .int, 2) := D_188_10 W_prog_16_method_1_code_96 26 rfl rfl
theorem d_16_1_124 : decode prog_16_method_1_code 124 = .ok (.putfield 53, 3) := D_181 W_prog_16_method_1_code_96 28 rfl rfl rfl
theorem d_16_1_127 : decode prog_16_method_1_code 127 = .ok (.aload_n 0, 1) := D_42 W_prog_16_method_1_code_96 31 rfl rfl
theorem W_prog_16_method_1_code_128 : chW prog_16_method_1_code 128 [17, 15, 160, 188, 10, 181, 0, 56, 42, 17, 15, 160, 188, 10, 181, 0, 59, 42, 17, 15, 160, 188, 10, 181, 0, 62, 42, 17, 15, 160, 188, 10, 181, 0, 65, 42] := chW_of (by decide +kernel)
theorem d_16_1_128 : decode prog_16_method_1_code 128 = .ok (.sipush 4000, 3) := D_17 W_prog_16_method_1_code_128 0 rfl rfl rfl
theorem d_16_1_131 : decode prog_16_method_1_code 131 = .ok (.newarray .int, 2) := D_188_10 W_prog_16_method_1_code_128 3 rfl rfl
theorem d_16_1_133 : decode prog_16_method_1_code 133 = .ok (.putfield 56, 3) := D_181 W_prog_16_method_1_code_128 5 rfl rfl rfl
theorem d_16_1_136 : decode prog_16_method_1_code 136 = .ok (.aload_n 0, 1) := D_42 W_prog_16_method_1_code_128 8 rfl rfl
theorem d_16_1_137 : decode prog_16_method_1_code 137 = .ok (.sipush 4000, 3) := D_17 W_prog_16_method_1_code_128 9 rfl rfl rfl
theorem d_16_1_140 : decode prog_16_method_1_code 140 = .ok (.newarray .int, 2) := D_188_10 W_prog_16_method_1_code_128 12 rfl rfl
theorem d_16_1_142 : decode prog_16_method_1_code 142 = .ok (.putfield 59, 3) := D_181 W_prog_16_method_1_code_128 14 rfl rfl rfl
theorem d_16_1_145 : decode prog_16_method_1_code 145 = .ok (.aload_n 0, 1) := D_42 W_prog_16_method_1_code_128 17 rfl rfl
theorem d_16_1_146 : decode prog_16_method_1_code 146 = .ok (.sipush 4000, 3) := D_17 W_prog_16_method_1_code_128 18 rfl rfl rfl
theorem d_16_1_149 : decode prog_16_method_1_code 149 = .ok (.newarray .int, 2) := D_188_10 W_prog_16_method_1_code_128 21 rfl rfl
theorem d_16_1_151 : decode prog_16_method_1_code 151 = .ok (.putfield 62, 3) := D_181 W_prog_16_method_1_code_128 23 rfl rfl rfl
theorem d_16_1_154 : decode prog_16_method_1_code 154 = .ok (.aload_n 0, 1) := D_42 W_prog_16_method_1_code_128 26 rfl rfl
theorem d_16_1_155 : decode prog_16_method_1_code 155 = .ok (.sipush 4000, 3) := D_17 W_prog_16_method_1_code_128 27 rfl rfl rfl
theorem d_16_1_158 : decode prog_16_method_1_code 158 = .ok (.newarray .int, 2) := D_188_10 W_prog_16_method_1_code_128 30 rfl rfl
theorem W_prog_16_method_1_code_160 : chW prog_16_method_1_code 160 [181, 0, 65, 42, 17, 15, 160, 188, 4, 181, 0, 68, 42, 17, 93, 192, 188, 10, 181, 0, 72, 42, 17, 93, 192, 188, 10, 181, 0, 75, 42, 17, 12, 128, 188, 10] := chW_of (by decide +kernel)
theorem d_16_1_160 : decode prog_16_method_1_code 160 = .ok (.putfield 65, 3) := D_181 W_prog_16_method_1_code_160 0 rfl rfl rfl
theorem d_16_1_163 : decode prog_16_method_1_code 163 = .ok (.aload_n 0, 1) := D_42 W_prog_16_method_1_code_160 3 rfl rfl
theorem d_16_1_164 : decode prog_16_method_1_code 164 = .ok (.sipush 4000, 3) := D_17 W_prog_16_method_1_code_160 4 rfl rfl rfl
theorem d_16_1_167 : decode prog_16_method_1_code 167 = .ok (.newarray .boolean, 2) := D_188_4 W_prog_16_method_1_code_160 7 rfl rfl
theorem d_16_1_169 : decode prog_16_method_1_code 169 = .ok (.putfield 68, 3) := D_181 W_prog_16_method_1_code_160 9 rfl rfl rfl
theorem d_16_1_172 : decode prog_16_method_1_code 172 = .ok (.aload_n 0, 1) := D_42 W_prog_16_method_1_code_160 12 rfl rfl
theorem d_16_1_173 : decode prog_16_method_1_code 173 = .ok (.sipush 24000, 3) := D_17 W_prog_16_method_1_code_160 13 rfl rfl rfl
theorem d_16_1_176 : decode prog_16_method_1_code 176 = .ok (.newarray .int, 2) := D_188_10 W_prog_16_method_1_code_160 16 rfl rfl
theorem d_16_1_178 : decode prog_16_method_1_code 178 = .ok (.putfield 72, 3) := D_181 W_prog_16_method_1_code_160 18 rfl rfl rfl
theorem d_16_1_181 : decode prog_16_method_1_code 181 = .ok (.aload_n 0, 1) := D_42 W_prog_16_method_1_code_160 21 rfl rfl
theorem d_16_1_182 : decode prog_16_method_1_code 182 = .ok (.sipush 24000, 3) := D_17 W_prog_16_method_1_code_160 22 rfl rfl rfl
theorem d_16_1_185 : decode prog_16_method_1_code 185 = .ok (.newarray .int, 2) := D_188_10 W_prog_16_method_1_code_160 25 rfl rfl
theorem d_16_1_187 : decode prog_16_method_1_code 187 = .ok (.putfield 75, 3) := D_181 W_prog_16_method_1_code_160 27 rfl rfl rfl
theorem d_16_1_190 : decode prog_16_method_1_code 190 = .ok (.aload_n 0, 1) := D_42 W_prog_16_method_1_code_160 30 rfl rfl
theorem d_16_1_191 : decode prog_16_method_1_code 191 = .ok (.sipush 3200, 3) := D_17 W_prog_16_method_1_code_160 31 rfl rfl rfl
theorem W_prog_16_method_1_code_192 : chW prog_16_method_1_code 192 [12, 128, 188, 10, 181, 0, 78, 42, 17, 12, 128, 188, 10, 181, 0, 81, 42, 17, 12, 128, 188, 11, 181, 0, 84, 42, 17, 12, 128, 188, 11, 181, 0, 87, 42, 17] := chW_of (by decide +kernel)
theorem d_16_1_194 : decode prog_16_method_1_code 194 = .ok (.newarray .int, 2) := D_188_10 W_prog_16_method_1_code_192 2 rfl rfl
theorem d_16_1_196 : decode prog_16_method_1_code 196 = .ok (.putfield 78, 3) := D_181 W_prog_16_method_1_code_192 4 rfl rfl rfl
theorem d_16_1_199 : decode prog_16_method_1_code 199 = .ok (.aload_n 0, 1) := D_42 W_prog_16_method_1_code_192 7 rfl rfl
theorem d_16_1_200 : decode prog_16_method_1_code 200 = .ok (.sipush 3200, 3) := D_17 W_prog_16_method_1_code_192 8 rfl rfl rfl
theorem d_16_1_203 : decode prog_16_method_1_code 203 = .ok (.newarray .int, 2) := D_188_10 W_prog_16_method_1_code_192 11 rfl rfl
theorem d_16_1_205 : decode prog_16_method_1_code 205 = .ok (.putfield 81, 3) := D_181 W_prog_16_method_1_code_192 13 rfl rfl rfl
theorem d_16_1_208 : decode prog_16_method_1_code 208 = .ok (.aload_n 0, 1) := D_42 W_prog_16_method_1_code_192 16 rfl rfl
theorem d_16_1_209 : decode prog_16_method_1_code 209 = .ok (.sipush 3200, 3) := D_17 W_prog_16_method_1_code_192 17 rfl rfl rfl
theorem d_16_1_212 : decode prog_16_method_1_code 212 = .ok (.newarray .long, 2) := D_188_11 W_prog_16_method_1_code_192 20 rfl rfl
theorem d_16_1_214 : decode prog_16_method_1_code 214 = .ok (.putfield 84, 3) := D_181 W_prog_16_method_1_code_192 22 rfl rfl rfl
theorem d_16_1_217 : decode prog_16_method_1_code 217 = .ok (.aload_n 0, 1) := D_42 W_prog_16_method_1_code_192 25 rfl rfl
theorem d_16_1_218 : decode prog_16_method_1_code 218 = .ok (.sipush 3200, 3) := D_17 W_prog_16_method_1_code_192 26 rfl rfl rfl
theorem d_16_1_221 : decode prog_16_method_1_code 221 = .ok (.newarray .long, 2) := D_188_11 W_prog_16_method_1_code_192 29 rfl rfl
theorem d_16_1_223 : decode prog_16_method_1_code 223 = .ok (.putfield 87, 3) := D_181 W_prog_16_method_1_code_192 31 rfl rfl rfl
theorem W_prog_16_method_1_code_224 : chW prog_16_method_1_code 224 [0, 87, 42, 17, 12, 128, 188, 10, 181, 0, 90, 42, 17, 12, 128, 188, 10, 181, 0, 93, 42, 17, 12, 128, 188, 10, 181, 0, 96, 42, 17, 12, 128, 188, 10, 181] := chW_of (by decide +kernel)
theorem d_16_1_226 : decode prog_16_method_1_code 226 = .ok (.aload_n 0, 1) := D_42 W_prog_16_method_1_code_224 2 rfl rfl
theorem d_16_1_227 : decode prog_16_method_1_code 227 = .ok (.sipush 3200, 3) := D_17 W_prog_16_method_1_code_224 3 rfl rfl rfl
theorem d_16_1_230 : decode prog_16_method_1_code 230 = .ok (.newarray .int, 2) := D_188_10 W_prog_16_method_1_code_224 6 rfl rfl
theorem d_16_1_232 : decode prog_16_method_1_code 232 = .ok (.putfield 90, 3) := D_181 W_prog_16_method_1_code_224 8 rfl rfl rfl
theorem d_16_1_235 : decode prog_16_method_1_code 235 = .ok (.aload_n 0, 1) := D_42 W_prog_16_method_1_code_224 11 rfl rfl
theorem d_16_1_236 : decode prog_16_method_1_code 236 = .ok (.sipush 3200, 3) := D_17 W_prog_16_method_1_code_224 12 rfl rfl rfl
theorem d_16_1_239 : decode prog_16_method_1_code 239 = .ok (.newarray .int, 2) := D_188_10 W_prog_16_method_1_code_224 15 rfl rfl
theorem d_16_1_241 : decode prog_16_method_1_code 241 = .ok (.putfield 93, 3) := D_181 W_prog_16_method_1_code_224 17 rfl rfl rfl
theorem d_16_1_244 : decode prog_16_method_1_code 244 = .ok (.aload_n 0, 1) := D_42 W_prog_16_method_1_code_224 20 rfl rfl
theorem d_16_1_245 : decode prog_16_method_1_code 245 = .ok (.sipush 3200, 3) := D_17 W_prog_16_method_1_code_224 21 rfl rfl rfl
theorem d_16_1_248 : decode prog_16_method_1_code 248 = .ok (.newarray .int, 2) := D_188_10 W_prog_16_method_1_code_224 24 rfl rfl
theorem d_16_1_250 : decode prog_16_method_1_code 250 = .ok (.putfield 96, 3) := D_181 W_prog_16_method_1_code_224 26 rfl rfl rfl
theorem d_16_1_253 : decode prog_16_method_1_code 253 = .ok (.aload_n 0, 1) := D_42 W_prog_16_method_1_code_224 29 rfl rfl
theorem d_16_1_254 : decode prog_16_method_1_code 254 = .ok (.sipush 3200, 3) := D_17 W_prog_16_method_1_code_224 30 rfl rfl rfl
theorem W_prog_16_method_1_code_256 : chW prog_16_method_1_code 256 [128, 188, 10, 181, 0, 99, 42, 17, 12, 128, 188, 10, 181, 0, 102, 42, 17, 12, 128, 188, 10, 181, 0, 105, 42, 17, 12, 128, 188, 10, 181, 0, 108, 42, 17, 12] := chW_of (by decide +kernel)
theorem d_16_1_257 : decode prog_16_method_1_code 257 = .ok (.newarray .int, 2) := D_188_10 W_prog_16_method_1_code_256 1 rfl rfl
theorem d_16_1_259 : decode prog_16_method_1_code 259 = .ok (.putfield 99, 3) := D_181 W_prog_16_method_1_code_256 3 rfl rfl rfl
theorem d_16_1_262 : decode prog_16_method_1_code 262 = .ok (.aload_n 0, 1) := D_42 W_prog_16_method_1_code_256 6 rfl rfl
theorem d_16_1_263 : decode prog_16_method_1_code 263 = .ok (.sipush 3200, 3) := D_17 W_prog_16_method_1_code_256 7 rfl rfl rfl
theorem d_16_1_266 : decode prog_16_method_1_code 266 = .ok (.newarray .int, 2) := D_188_10 W_prog_16_method_1_code_256 10 rfl rfl
theorem d_16_1_268 : decode prog_16_method_1_code 268 = .ok (.putfield 102, 3) := D_181 W_prog_16_method_1_code_256 12 rfl rfl rfl
theorem d_16_1_271 : decode prog_16_method_1_code 271 = .ok (.aload_n 0, 1) := D_42 W_prog_16_method_1_code_256 15 rfl rfl
theorem d_16_1_272 : decode prog_16_method_1_code 272 = .ok (.sipush 3200, 3) := D_17 W_prog_16_method_1_code_256 16 rfl rfl rfl
theorem d_16_1_275 : decode prog_16_method_1_code 275 = .ok (.newarray .int, 2) := D_188_10 W_prog_16_method_1_code_256 19 rfl rfl
theorem d_16_1_277 : decode prog_16_method_1_code 277 = .ok (.putfield 105, 3) := D_181 W_prog_16_method_1_code_256 21 rfl rfl rfl
theorem d_16_1_280 : decode prog_16_method_1_code 280 = .ok (.aload_n 0, 1) := D_42 W_prog_16_method_1_code_256 24 rfl rfl
theorem d_16_1_281 : decode prog_16_method_1_code 281 = .ok (.sipush 3200, 3) := D_17 W_prog_16_method_1_code_256 25 rfl rfl rfl
theorem d_16_1_284 : decode prog_16_method_1_code 284 = .ok (.newarray .int, 2) := D_188_10 W_prog_16_method_1_code_256 28 rfl rfl
theorem d_16_1_286 : decode prog_16_method_1_code 286 = .ok (.putfield 108, 3) := D_181 W_prog_16_method_1_code_256 30 rfl rfl rfl
theorem W_prog_16_method_1_code_288 : chW prog_16_method_1_code 288 [108, 42, 17, 12, 128, 188, 10, 181, 0, 111, 42, 16, 101, 188, 10, 181, 0, 114, 42, 17, 12, 128, 188, 11, 181, 0, 117, 42, 17, 12, 128, 188, 11, 181, 0, 120] := chW_of (by decide +kernel)
theorem d_16_1_289 : decode prog_16_method_1_code 289 = .ok (.aload_n 0, 1) := D_42 W_prog_16_method_1_code_288 1 rfl rfl
theorem d_16_1_290 : decode prog_16_method_1_code 290 = .ok (.sipush 3200, 3) := D_17 W_prog_16_method_1_code_288 2 rfl rfl rfl
theorem d_16_1_293 : decode prog_16_method_1_code 293 = .ok (.newarray .int, 2) := D_188_10 W_prog_16_method_1_code_288 5 rfl rfl
theorem d_16_1_295 : decode prog_16_method_1_code 295 = .ok (.putfield 111, 3) := D_181 W_prog_16_method_1_code_288 7 rfl rfl rfl
theorem d_16_1_298 : decode prog_16_method_1_code 298 = .ok (.aload_n 0, 1) := D_42 W_prog_16_method_1_code_288 10 rfl rfl
theorem d_16_1_299 : decode prog_16_method_1_code 299 = .ok (.bipush 101, 2) := D_16 W_prog_16_method_1_code_288 11 rfl rfl rfl
theorem d_16_1_301 : decode prog_16_method_1_code 301 = .ok (.newarray .int, 2) := D_188_10 W_prog_16_method_1_code_288 13 rfl rfl
theorem d_16_1_303 : decode prog_16_method_1_code 303 = .ok (.putfield 114, 3) := D_181 W_prog_16_method_1_code_288 15 rfl rfl rfl
theorem d_16_1_306 : decode prog_16_method_1_code 306 = .ok (.aload_n 0, 1) := D_42 W_prog_16_method_1_code_288 18 rfl rfl
theorem d_16_1_307 : decode prog_16_method_1_code 307 = .ok (.sipush 3200, 3) := D_17 W_prog_16_method_1_code_288 19 rfl rfl rfl
theorem d_16_1_310 : decode prog_16_method_1_code 310 = .ok (.newarray .long, 2) := D_188_11 W_prog_16_method_1_code_288 22 rfl rfl
theorem d_16_1_312 : decode prog_16_method_1_code 312 = .ok (.putfield 117, 3) := D_181 W_prog_16_method_1_code_288 24 rfl rfl rfl
theorem d_16_1_315 : decode prog_16_method_1_code 315 = .ok (.aload_n 0, 1) := D_42 W_prog_16_method_1_code_288 27 rfl rfl
theorem d_16_1_316 : decode prog_16_method_1_code 316 = .ok (.sipush 3200, 3) := D_17 W_prog_16_method_1_code_288 28 rfl rfl rfl
theorem d_16_1_319 : decode prog_16_method_1_code 319 = .ok (.newarray .long, 2) := D_188_11 W_prog_16_method_1_code_288 31 rfl rfl
theorem W_prog_16_method_1_code_320 : chW prog_16_method_1_code 320 [11, 181, 0, 120, 42, 17, 12, 128, 188, 10, 181, 0, 123, 42, 16, 100, 188, 10, 181, 0, 126, 42, 16, 100, 188, 10, 181, 0, 129, 42, 16, 100, 188, 10, 181, 0] := chW_of (by decide +kernel)
theorem d_16_1_321 : decode prog_16_method_1_code 321 = .ok (.putfield 120, 3) := D_181 W_prog_16_method_1_code_320 1 rfl rfl rfl
theorem d_16_1_324 : decode prog_16_method_1_code 324 = .ok (.aload_n 0, 1) := D_42 W_prog_16_method_1_code_320 4 rfl rfl
theorem d_16_1_325 : decode prog_16_method_1_code 325 = .ok (.sipush 3200, 3) := D_17 W_prog_16_method_1_code_320 5 rfl rfl rfl
theorem d_16_1_328 : decode prog_16_method_1_code 328 = .ok (.newarray .int, 2) := D_188_10 W_prog_16_method_1_code_320 8 rfl rfl
theorem d_16_1_330 : decode prog_16_method_1_code 330 = .ok (.putfield 123, 3) := D_181 W_prog_16_method_1_code_320 10 rfl rfl rfl
theorem d_16_1_333 : decode prog_16_method_1_code 333 = .ok (.aload_n 0, 1) := D_42 W_prog_16_method_1_code_320 13 rfl rfl
theorem d_16_1_334 : decode prog_16_method_1_code 334 = .ok (.bipush 100, 2) := D_16 W_prog_16_method_1_code_320 14 rfl rfl rfl
theorem d_16_1_336 : decode prog_16_method_1_code 336 = .ok (.newarray .int, 2) := D_188_10 W_prog_16_method_1_code_320 16 rfl rfl
theorem d_16_1_338 : decode prog_16_method_1_code 338 = .ok (.putfield 126, 3) := D_181 W_prog_16_method_1_code_320 18 rfl rfl rfl
theorem d_16_1_341 : decode prog_16_method_1_code 341 = .ok (.aload_n 0, 1) := D_42 W_prog_16_method_1_code_320 21 rfl rfl
theorem d_16_1_342 : decode prog_16_method_1_code 342 = .ok (.bipush 100, 2) := D_16 W_prog_16_method_1_code_320 22 rfl rfl rfl
theorem d_16_1_344 : decode prog_16_method_1_code 344 = .ok (.newarray .int, 2) := D_188_10 W_prog_16_method_1_code_320 24 rfl rfl
theorem d_16_1_346 : decode prog_16_method_1_code 346 = .ok (.putfield 129, 3) := D_181 W_prog_16_method_1_code_320 26 rfl rfl rfl
theorem d_16_1_349 : decode prog_16_method_1_code 349 = .ok (.aload_n 0, 1) := D_42 W_prog_16_method_1_code_320 29 rfl rfl
theorem d_16_1_350 : decode prog_16_method_1_code 350 = .ok (.bipush 100, 2) := D_16 W_prog_16_method_1_code_320 30 rfl rfl rfl
theorem W_prog_16_method_1_code_352 : chW prog_16_method_1_code 352 [188, 10, 181, 0, 132, 42, 16, 100, 188, 10, 181, 0, 135, 42, 16, 100, 188, 11, 181, 0, 138, 42, 17, 7, 208, 188, 10, 181, 0, 141, 42, 17, 7, 208, 188, 10] := chW_of (by decide +kernel)
theorem d_16_1_352 : decode prog_16_method_1_code 352 = .ok (.newarray .int, 2) := D_188_10 W_prog_16_method_1_code_352 0 rfl rfl
theorem d_16_1_354 : decode prog_16_method_1_code 354 = .ok (.putfield 132, 3) := D_181 W_prog_16_method_1_code_352 2 rfl rfl rfl
theorem d_16_1_357 : decode prog_16_method_1_code 357 = .ok (.aload_n 0, 1) := D_42 W_prog_16_method_1_code_352 5 rfl rfl
theorem d_16_1_358 : decode prog_16_method_1_code 358 = .ok (.bipush 100, 2) := D_16 W_prog_16_method_1_code_352 6 rfl rfl rfl
theorem d_16_1_360 : decode prog_16_method_1_code 360 = .ok (.newarray .int, 2) := D_188_10 W_prog_16_method_1_code_352 8 rfl rfl
theorem d_16_1_362 : decode prog_16_method_1_code 362 = .ok (.putfield 135, 3) := D_181 W_prog_16_method_1_code_352 10 rfl rfl rfl
theorem d_16_1_365 : decode prog_16_method_1_code 365 = .ok (.aload_n 0, 1) := D_42 W_prog_16_method_1_code_352 13 rfl rfl
theorem d_16_1_366 : decode prog_16_method_1_code 366 = .ok (.bipush 100, 2) := D_16 W_prog_16_method_1_code_352 14 rfl rfl rfl
theorem d_16_1_368 : decode prog_16_method_1_code 368 = .ok (.newarray .long, 2) := D_188_11 W_prog_16_method_1_code_352 16 rfl rfl
theorem d_16_1_370 : decode prog_16_method_1_code 370 = .ok (.putfield 138, 3) := D_181 W_prog_16_method_1_code_352 18 rfl rfl rfl
theorem d_16_1_373 : decode prog_16_method_1_code 373 = .ok (.aload_n 0, 1) := D_42 W_prog_16_method_1_code_352 21 rfl rfl
theorem d_16_1_374 : decode prog_16_method_1_code 374 = .ok (.sipush 2000, 3) := D_17 W_prog_16_method_1_code_352 22 rfl rfl rfl
theorem d_16_1_377 : decode prog_16_method_1_code 377 = .ok (.newarray .int, 2) := D_188_10 W_prog_16_method_1_code_352 25 rfl rfl
theorem d_16_1_379 : decode prog_16_method_1_code 379 = .ok (.putfield 141, 3) := D_181 W_prog_16_method_1_code_352 27 rfl rfl rfl
theorem d_16_1_382 : decode prog_16_method_1_code 382 = .ok (.aload_n 0, 1) := D_42 W_prog_16_method_1_code_352 30 rfl rfl
theorem d_16_1_383 : decode prog_16_method_1_code 383 = .ok (.sipush 2000, 3) := D_17 W_prog_16_method_1_code_352 31 rfl rfl rfl
theorem W_prog_16_method_1_code_384 : chW prog_16_method_1_code 384 [7, 208, 188, 10, 181, 0, 144, 42, 17, 7, 208, 188, 10, 181, 0, 147, 42, 17, 7, 208, 188, 10, 181, 0, 150, 42, 17, 7, 208, 188, 10, 181, 0, 153, 42, 17] := chW_of (by decide +kernel)
theorem d_16_1_386 : decode prog_16_method_1_code 386 = .ok (.newarray .int, 2) := D_188_10 W_prog_16_method_1_code_384 2 rfl rfl
theorem d_16_1_388 : decode prog_16_method_1_code 388 = .ok (.putfield 144, 3) := D_181 W_prog_16_method_1_code_384 4 rfl rfl rfl
theorem d_16_1_391 : decode prog_16_method_1_code 391 = .ok (.aload_n 0, 1) := D_42 W_prog_16_method_1_code_384 7 rfl rfl
theorem d_16_1_392 : decode prog_16_method_1_code 392 = .ok (.sipush 2000, 3) := D_17 W_prog_16_method_1_code_384 8 rfl rfl rfl
theorem d_16_1_395 : decode prog_16_method_1_code 395 = .ok (.newarray .int, 2) := D_188_10 W_prog_16_method_1_code_384 11 rfl rfl
theorem d_16_1_397 : decode prog_16_method_1_code 397 = .ok (.putfield 147, 3) := D_181 W_prog_16_method_1_code_384 13 rfl rfl rfl
theorem d_16_1_400 : decode prog_16_method_1_code 400 = .ok (.aload_n 0, 1) := D_42 W_prog_16_method_1_code_384 16 rfl rfl
theorem d_16_1_401 : decode prog_16_method_1_code 401 = .ok (.sipush 2000, 3) := D_17 W_prog_16_method_1_code_384 17 rfl rfl rfl
theorem d_16_1_404 : decode prog_16_method_1_code 404 = .ok (.newarray .int, 2) := D_188_10 W_prog_16_method_1_code_384 20 rfl rfl
theorem d_16_1_406 : decode prog_16_method_1_code 406 = .ok (.putfield 150, 3) := D_181 W_prog_16_method_1_code_384 22 rfl rfl rfl
theorem d_16_1_409 : decode prog_16_method_1_code 409 = .ok (.aload_n 0, 1) := D_42 W_prog_16_method_1_code_384 25 rfl rfl
theorem d_16_1_410 : decode prog_16_method_1_code 410 = .ok (.sipush 2000, 3) := D_17 W_prog_16_method_1_code_384 26 rfl rfl rfl
theorem d_16_1_413 : decode prog_16_method_1_code 413 = .ok (.newarray .int, 2) := D_188_10 W_prog_16_method_1_code_384 29 rfl rfl
theorem d_16_1_415 : decode prog_16_method_1_code 415 = .ok (.putfield 153, 3) := D_181 W_prog_16_method_1_code_384 31 rfl rfl rfl
theorem W_prog_16_method_1_code_416 : chW prog_16_method_1_code 416 [0, 153, 42, 17, 15, 160, 188, 10, 181, 0, 156, 42, 17, 15, 160, 188, 10, 181, 0, 159, 42, 17, 15, 160, 188, 10, 181, 0, 162, 42, 17, 15, 160, 188, 10, 181] := chW_of (by decide +kernel)
theorem d_16_1_418 : decode prog_16_method_1_code 418 = .ok (.aload_n 0, 1) := D_42 W_prog_16_method_1_code_416 2 rfl rfl
theorem d_16_1_419 : decode prog_16_method_1_code 419 = .ok (.sipush 4000, 3) := D_17 W_prog_16_method_1_code_416 3 rfl rfl rfl
theorem d_16_1_422 : decode prog_16_method_1_code 422 = .ok (.newarray .int, 2) := D_188_10 W_prog_16_method_1_code_416 6 rfl rfl
theorem d_16_1_424 : decode prog_16_method_1_code 424 = .ok (.putfield 156, 3) := D_181 W_prog_16_method_1_code_416 8 rfl rfl rfl
theorem d_16_1_427 : decode prog_16_method_1_code 427 = .ok (.aload_n 0, 1) := D_42 W_prog_16_method_1_code_416 11 rfl rfl
theorem d_16_1_428 : decode prog_16_method_1_code 428 = .ok (.sipush 4000, 3) := D_17 W_prog_16_method_1_code_416 12 rfl rfl rfl
theorem d_16_1_431 : decode prog_16_method_1_code 431 = .ok (.newarray .int, 2) := D_188_10 W_prog_16_method_1_code_416 15 rfl rfl
theorem d_16_1_433 : decode prog_16_method_1_code 433 = .ok (.putfield 159, 3) := D_181 W_prog_16_method_1_code_416 17 rfl rfl rfl
theorem d_16_1_436 : decode prog_16_method_1_code 436 = .ok (.aload_n 0, 1) := D_42 W_prog_16_method_1_code_416 20 rfl rfl
theorem d_16_1_437 : decode prog_16_method_1_code 437 = .ok (.sipush 4000, 3) := D_17 W_prog_16_method_1_code_416 21 rfl rfl rfl
theorem d_16_1_440 : decode prog_16_method_1_code 440 = .ok (.newarray .int, 2) := D_188_10 W_prog_16_method_1_code_416 24 rfl rfl
theorem d_16_1_442 : decode prog_16_method_1_code 442 = .ok (.putfield 162, 3) := D_181 W_prog_16_method_1_code_416 26 rfl rfl rfl
theorem d_16_1_445 : decode prog_16_method_1_code 445 = .ok (.aload_n 0, 1) := D_42 W_prog_16_method_1_code_416 29 rfl rfl
theorem d_16_1_446 : decode prog_16_method_1_code 446 = .ok (.sipush 4000, 3) := D_17 W_prog_16_method_1_code_416 30 rfl rfl rfl
theorem W_prog_16_method_1_code_448 : chW prog_16_method_1_code 448 [160, 188, 10, 181, 0, 165, 42, 17, 3, 232, 188, 10, 181, 0, 168, 42, 17, 3, 232, 188, 10, 181, 0, 171, 42, 17, 3, 32, 188, 11, 181, 0, 174, 42, 17, 3] := chW_of (by decide +kernel)
theorem d_16_1_449 : decode prog_16_method_1_code 449 = .ok (.newarray .int, 2) := D_188_10 W_prog_16_method_1_code_448 1 rfl rfl
theorem d_16_1_451 : decode prog_16_method_1_code 451 = .ok (.putfield 165, 3) := D_181 W_prog_16_method_1_code_448 3 rfl rfl rfl
theorem d_16_1_454 : decode prog_16_method_1_code 454 = .ok (.aload_n 0, 1) := D_42 W_prog_16_method_1_code_448 6 rfl rfl
theorem d_16_1_455 : decode prog_16_method_1_code 455 = .ok (.sipush 1000, 3) := D_17 W_prog_16_method_1_code_448 7 rfl rfl rfl
theorem d_16_1_458 : decode prog_16_method_1_code 458 = .ok (.newarray .int, 2) := D_188_10 W_prog_16_method_1_code_448 10 rfl rfl
theorem d_16_1_460 : decode prog_16_method_1_code 460 = .ok (.putfield 168, 3) := D_181 W_prog_16_method_1_code_448 12 rfl rfl rfl
theorem d_16_1_463 : decode prog_16_method_1_code 463 = .ok (.aload_n 0, 1) := D_42 W_prog_16_method_1_code_448 15 rfl rfl
theorem d_16_1_464 : decode prog_16_method_1_code 464 = .ok (.sipush 1000, 3) := D_17 W_prog_16_method_1_code_448 16 rfl rfl rfl
theorem d_16_1_467 : decode prog_16_method_1_code 467 = .ok (.newarray .int, 2) := D_188_10 W_prog_16_method_1_code_448 19 rfl rfl
theorem d_16_1_469 : decode prog_16_method_1_code 469 = .ok (.putfield 171, 3) := D_181 W_prog_16_method_1_code_448 21 rfl rfl rfl
theorem d_16_1_472 : decode prog_16_method_1_code 472 = .ok (.aload_n 0, 1) := D_42 W_prog_16_method_1_code_448 24 rfl rfl
theorem d_16_1_473 : decode prog_16_method_1_code 473 = .ok (.sipush 800, 3) := D_17 W_prog_16_method_1_code_448 25 rfl rfl rfl
theorem d_16_1_476 : decode prog_16_method_1_code 476 = .ok (.newarray .long, 2) := D_188_11 W_prog_16_method_1_code_448 28 rfl rfl
theorem d_16_1_478 : decode prog_16_method_1_code 478 = .ok (.putfield 174, 3) := D_181 W_prog_16_method_1_code_448 30 rfl rfl rfl
theorem W_prog_16_method_1_code_480 : chW prog_16_method_1_code 480 [174, 42, 17, 3, 32, 188, 11, 181, 0, 177, 42, 17, 12, 128, 188, 10, 181, 0, 180, 42, 17, 1, 44, 188, 10, 181, 0, 183, 42, 17, 1, 44, 188, 10, 181, 0] := chW_of (by decide +kernel)
theorem d_16_1_481 : decode prog_16_method_1_code 481 = .ok (.aload_n 0, 1) := D_42 W_prog_16_method_1_code_480 1 rfl rfl
theorem d_16_1_482 : decode prog_16_method_1_code 482 = .ok (.sipush 800, 3) := D_17 W_prog_16_method_1_code_480 2 rfl rfl rfl
theorem d_16_1_485 : decode prog_16_method_1_code 485 = .ok (.newarray .long, 2) := D_188_11 W_prog_16_method_1_code_480 5 rfl rfl
theorem d_16_1_487 : decode prog_16_method_1_code 487 = .ok (.putfield 177, 3) := D_181 W_prog_16_method_1_code_480 7 rfl rfl rfl
theorem d_16_1_490 : decode prog_16_method_1_code 490 = .ok (.aload_n 0, 1) := D_42 W_prog_16_method_1_code_480 10 rfl rfl
theorem d_16_1_491 : decode prog_16_method_1_code 491 = .ok (.sipush 3200, 3) := D_17 W_prog_16_method_1_code_480 11 rfl rfl rfl
theorem d_16_1_494 : decode prog_16_method_1_code 494 = .ok (.newarray .int, 2) := D_188_10 W_prog_16_method_1_code_480 14 rfl rfl
theorem d_16_1_496 : decode prog_16_method_1_code 496 = .ok (.putfield 180, 3) := D_181 W_prog_16_method_1_code_480 16 rfl rfl rfl
theorem d_16_1_499 : decode prog_16_method_1_code 499 = .ok (.aload_n 0, 1) := D_42 W_prog_16_method_1_code_480 19 rfl rfl
theorem d_16_1_500 : decode prog_16_method_1_code 500 = .ok (.sipush 300, 3) := D_17 W_prog_16_method_1_code_480 20 rfl rfl rfl
theorem d_16_1_503 : decode prog_16_method_1_code 503 = .ok (.newarray .int, 2) := D_188_10 W_prog_16_method_1_code_480 23 rfl rfl
theorem d_16_1_505 : decode prog_16_method_1_code 505 = .ok (.putfield 183, 3) := D_181 W_prog_16_method_1_code_480 25 rfl rfl rfl
theorem d_16_1_508 : decode prog_16_method_1_code 508 = .ok (.aload_n 0, 1) := D_42 W_prog_16_method_1_code_480 28 rfl rfl
theorem d_16_1_509 : decode prog_16_method_1_code 509 = .ok (.sipush 300, 3) := D_17 W_prog_16_method_1_code_480 29 rfl rfl rfl
theorem W_prog_16_method_1_code_512 : chW prog_16_method_1_code 512 [188, 10, 181, 0, 186, 42, 17, 1, 44, 188, 10, 181, 0, 189, 42, 17, 1, 44, 188, 10, 181, 0, 192, 177] := chW_of (by decide +kernel)
theorem d_16_1_512 : decode prog_16_method_1_code 512 = .ok (.newarray .int, 2) := D_188_10 W_prog_16_method_1_code_512 0 rfl rfl
theorem d_16_1_514 : decode prog_16_method_1_code 514 = .ok (.putfield 186, 3) := D_181 W_prog_16_method_1_code_512 2 rfl rfl rfl
theorem d_16_1_517 : decode prog_16_method_1_code 517 = .ok (.aload_n 0, 1) := D_42 W_prog_16_method_1_code_512 5 rfl rfl
theorem d_16_1_518 : decode prog_16_method_1_code 518 = .ok (.sipush 300, 3) := D_17 W_prog_16_method_1_code_512 6 rfl rfl rfl
theorem d_16_1_521 : decode prog_16_method_1_code 521 = .ok (.newarray .int, 2) := D_188_10 W_prog_16_method_1_code_512 9 rfl rfl
theorem d_16_1_523 : decode prog_16_method_1_code 523 = .ok (.putfield 189, 3) := D_181 W_prog_16_method_1_code_512 11 rfl rfl rfl
theorem d_16_1_526 : decode prog_16_method_1_code 526 = .ok (.aload_n 0, 1) := D_42 W_prog_16_method_1_code_512 14 rfl rfl
theorem d_16_1_527 : decode prog_16_method_1_code 527 = .ok (.sipush 300, 3) := D_17 W_prog_16_method_1_code_512 15 rfl rfl rfl
theorem d_16_1_530 : decode prog_16_method_1_code 530 = .ok (.newarray .int, 2) := D_188_10 W_prog_16_method_1_code_512 18 rfl rfl
theorem d_16_1_532 : decode prog_16_method_1_code 532 = .ok (.putfield 192, 3) := D_181 W_prog_16_method_1_code_512 20 rfl rfl rfl
theorem d_16_1_535 : decode prog_16_method_1_code 535 = .ok (.return_, 1) := D_177 W_prog_16_method_1_code_512 23 rfl rfl
abbrev Q_MString_coder (K : zK) (D : va_G) (ca : Nat → ClassId) (ad : Nat → Int → Nat → Nat) (L : List Nat) (r : Int) (F : zF) (B : zB) (A : Nat → Prop) : Array Value → State → Outcome → State → Prop := va_Qi (S := Unit) (fun p _ => p = iI r) (fun _ => zPo D ca ad lnM K.2 L F B A) A
def f_MString_coder_14 (K : zK) (s0 : Int) (F : zF) (B : zB) : zO := if (-128) ≤ s0 ∧ s0 < 128 then some (s0, F, B) else none
set_option maxHeartbeats 4000000 in
set_option maxRecDepth 100000 in
theorem b_MString_coder_14 {D : va_G} {ca : Nat → ClassId} {ad : Nat → Int → Nat → Nat} {L : List Nat} {aS vS : Nat → Nat} {A : Nat → Prop} {p : Program} {l : Launch} {e : Env} {s : State} {m : MethodId} {args : Array Value} {below : List Frame} {meth : Method} {c : Code} {K : zK} {r : Int} {F9 : zF} {B9 : zB} (X : zX D ca L aS vS A p s m args meth c prog_21_method_152_code 1 (Option.some Jvm.ClassFile.FieldType.byte) "java/lang/String") {s0 : Int} {F : zF} {B : zB} {H : Heap} {locs : List Loc} {ls : Array Slot} (hf : f_MString_coder_14 K s0 F B = some (r, F9, B9)) (hZ : zH D ca ad lnM K.2 L F B A H) (hS : va_S A s.heap H locs) (hl : lv_has ls 1 []) : W p l e ({ frames := 0, cells := 0, slots := 0, locals := 0 } : Room) s m args below meth c H locs 0 0 (MQ below (Q_MString_coder K D ca ad L r F9 B9 A) args s 0 0 A) (F0 m 14 ls [.int (iI s0)]) := by
  obtain ⟨hx, hb, hr, hml, hown, hts, hlk, hK, hA, hL, hX⟩ := id X
  replace hf : (if (-128) ≤ s0 ∧ s0 < 128 then some (s0, F, B) else none) = some (r, F9, B9) := hf
  obtain ⟨g3, hf⟩ := gif hf
  cases hf
  exact W.zret hx hb hr (zbyte g3) (fun t ht hW => ⟨⟨_, (), rfl, rfl, by rw [ht]; exact hZ, va_K.moved hW.alike hK⟩, hS.F ht⟩) hS.2.2 d_21_152_14 hlk

def f_MString_coder (K : zK) (l0 : Nat) (F : zF) (B : zB) : zO := (if (1 : Int) = 0 then f_MString_coder_14 K 1 F B else if l0 < strL.length then f_MString_coder_14 K 0 F B else none)
set_option maxHeartbeats 4000000 in
set_option maxRecDepth 100000 in
theorem c_MString_coder {l : Launch} {D : va_G} {ca : Nat → ClassId} {ad : Nat → Int → Nat → Nat} {L : List Nat} {aS vS : Nat → Nat} {sz : Nat} {K : zK}  {l0 : Nat} {F F9 : zF} {B B9 : zB} {r : Int} (hf : f_MString_coder K l0 F B = some (r, F9, B9)) : Met l ({ cls := "java/lang/String", name := "coder", desc := "()B" } : Jvm.MethodName) (Cond.code ({ cls := "java/lang/String", name := "coder", desc := "()B" } : Jvm.MethodName) prog_21_method_152_code 1 (Option.some Jvm.ClassFile.FieldType.byte) :: wAll) ({ frames := 0, cells := 0, slots := 0, locals := 0 } : Room) (va_Pc [.ref (aS l0)] (zPre D ca ad lnM K.2 L aS vS F B sz)) (Q_MString_coder K D ca ad L r F9 B9 (zA L sz)) 0 0 (zA L sz) := by
  refine zMet (Qc := Q_MString_coder K D ca ad L r F9 B9) (lv := [(0, .ref (aS l0))]) (by decide) (Nat.le_of_ble_eq_true rfl) rfl (fun A p e s m below meth c ls X hZ hS hl => ?_)
  obtain ⟨hx, hb, hr, hml, hown, hts, hlk, hK, hA, hL, hX⟩ := id X
  replace hf : ((if (1 : Int) = 0 then f_MString_coder_14 K 1 F B else if l0 < strL.length then f_MString_coder_14 K 0 F B else none)) = some (r, F9, B9) := hf
  refine va_gets hx hb (hX.2.2.2.1 _ (List.mem_of_getElem? (i := 0) rfl) :) hS hown (hts _ k_3_79) (fun _ h => h) d_21_152_0 ?_
  refine W.eq (g2 := F0 m 3 ls [.int (iI 1)]) rfl ?_
  refine z0eq (tgt := 13) hx hb (by decide) d_21_152_3 (by decide) (fun h1 => ?_) (fun h1 => ?_)
  · replace hf := gpos hf h1
    refine lv_iconst (v := iI 1) hx hb d_21_152_13 rfl ?_
    exact b_MString_coder_14 X hf hZ hS (lv_sub hl [] rfl)
  · replace hf := gneg hf h1
    refine lv_aload_n hx hb d_21_152_6 rfl (lv_at hl 0 rfl) ?_
    obtain ⟨g2, hf⟩ := gif hf
    refine vk_getf hx hb (zstr hX g2).1 hS hown (hts _ k_15_171) (fun _ h => h) d_21_152_7 ?_
    refine W.eq (g2 := F0 m 10 ls [.int (iI 0)]) rfl ?_
    refine lv_goto (tgt := 14) hx hb d_21_152_10 (by decide) ?_
    exact b_MString_coder_14 X hf hZ hS (lv_sub hl [] rfl)

abbrev Q_MString_isLatin1 (K : zK) (D : va_G) (ca : Nat → ClassId) (ad : Nat → Int → Nat → Nat) (L : List Nat) (r : Int) (F : zF) (B : zB) (A : Nat → Prop) : Array Value → State → Outcome → State → Prop := va_Qi (S := Unit) (fun p _ => p = iI r) (fun _ => zPo D ca ad lnM K.2 L F B A) A
def f_MString_isLatin1_18 (K : zK) (s0 : Int) (F : zF) (B : zB) : zO := if (s0 = 0 ∨ s0 = 1) then some (s0, F, B) else none
set_option maxHeartbeats 4000000 in
set_option maxRecDepth 100000 in
theorem b_MString_isLatin1_18 {D : va_G} {ca : Nat → ClassId} {ad : Nat → Int → Nat → Nat} {L : List Nat} {aS vS : Nat → Nat} {A : Nat → Prop} {p : Program} {l : Launch} {e : Env} {s : State} {m : MethodId} {args : Array Value} {below : List Frame} {meth : Method} {c : Code} {K : zK} {r : Int} {F9 : zF} {B9 : zB} (X : zX D ca L aS vS A p s m args meth c prog_21_method_154_code 1 (Option.some Jvm.ClassFile.FieldType.boolean) "java/lang/String") {s0 : Int} {F : zF} {B : zB} {H : Heap} {locs : List Loc} {ls : Array Slot} (hf : f_MString_isLatin1_18 K s0 F B = some (r, F9, B9)) (hZ : zH D ca ad lnM K.2 L F B A H) (hS : va_S A s.heap H locs) (hl : lv_has ls 1 []) : W p l e ({ frames := 0, cells := 0, slots := 0, locals := 0 } : Room) s m args below meth c H locs 0 0 (MQ below (Q_MString_isLatin1 K D ca ad L r F9 B9 A) args s 0 0 A) (F0 m 18 ls [.int (iI s0)]) := by
  obtain ⟨hx, hb, hr, hml, hown, hts, hlk, hK, hA, hL, hX⟩ := id X
  replace hf : (if (s0 = 0 ∨ s0 = 1) then some (s0, F, B) else none) = some (r, F9, B9) := hf
  obtain ⟨g4, hf⟩ := gif hf
  cases hf
  exact W.zret hx hb hr (zbool g4) (fun t ht hW => ⟨⟨_, (), rfl, rfl, by rw [ht]; exact hZ, va_K.moved hW.alike hK⟩, hS.F ht⟩) hS.2.2 d_21_154_18 hlk

def f_MString_isLatin1_17 (K : zK)  (F : zF) (B : zB) : zO := f_MString_isLatin1_18 K 0 F B
set_option maxHeartbeats 4000000 in
set_option maxRecDepth 100000 in
theorem b_MString_isLatin1_17 {D : va_G} {ca : Nat → ClassId} {ad : Nat → Int → Nat → Nat} {L : List Nat} {aS vS : Nat → Nat} {A : Nat → Prop} {p : Program} {l : Launch} {e : Env} {s : State} {m : MethodId} {args : Array Value} {below : List Frame} {meth : Method} {c : Code} {K : zK} {r : Int} {F9 : zF} {B9 : zB} (X : zX D ca L aS vS A p s m args meth c prog_21_method_154_code 1 (Option.some Jvm.ClassFile.FieldType.boolean) "java/lang/String")  {F : zF} {B : zB} {H : Heap} {locs : List Loc} {ls : Array Slot} (hf : f_MString_isLatin1_17 K  F B = some (r, F9, B9)) (hZ : zH D ca ad lnM K.2 L F B A H) (hS : va_S A s.heap H locs) (hl : lv_has ls 1 []) : W p l e ({ frames := 0, cells := 0, slots := 0, locals := 0 } : Room) s m args below meth c H locs 0 0 (MQ below (Q_MString_isLatin1 K D ca ad L r F9 B9 A) args s 0 0 A) (F0 m 17 ls []) := by
  obtain ⟨hx, hb, hr, hml, hown, hts, hlk, hK, hA, hL, hX⟩ := id X
  replace hf : (f_MString_isLatin1_18 K 0 F B) = some (r, F9, B9) := hf
  refine lv_iconst (v := iI 0) hx hb d_21_154_17 rfl ?_
  exact b_MString_isLatin1_18 X hf hZ hS (lv_sub hl [] rfl)

def f_MString_isLatin1 (K : zK) (l0 : Nat) (F : zF) (B : zB) : zO := (if (1 : Int) = 0 then f_MString_isLatin1_17 K F B else if l0 < strL.length then (if (0 : Int) = 0 then f_MString_isLatin1_18 K 1 F B else f_MString_isLatin1_17 K F B) else none)
set_option maxHeartbeats 4000000 in
set_option maxRecDepth 100000 in
theorem c_MString_isLatin1 {l : Launch} {D : va_G} {ca : Nat → ClassId} {ad : Nat → Int → Nat → Nat} {L : List Nat} {aS vS : Nat → Nat} {sz : Nat} {K : zK}  {l0 : Nat} {F F9 : zF} {B B9 : zB} {r : Int} (hf : f_MString_isLatin1 K l0 F B = some (r, F9, B9)) : Met l ({ cls := "java/lang/String", name := "isLatin1", desc := "()Z" } : Jvm.MethodName) (Cond.code ({ cls := "java/lang/String", name := "isLatin1", desc := "()Z" } : Jvm.MethodName) prog_21_method_154_code 1 (Option.some Jvm.ClassFile.FieldType.boolean) :: wAll) ({ frames := 0, cells := 0, slots := 0, locals := 0 } : Room) (va_Pc [.ref (aS l0)] (zPre D ca ad lnM K.2 L aS vS F B sz)) (Q_MString_isLatin1 K D ca ad L r F9 B9 (zA L sz)) 0 0 (zA L sz) := by
  refine zMet (Qc := Q_MString_isLatin1 K D ca ad L r F9 B9) (lv := [(0, .ref (aS l0))]) (by decide) (Nat.le_of_ble_eq_true rfl) rfl (fun A p e s m below meth c ls X hZ hS hl => ?_)
  obtain ⟨hx, hb, hr, hml, hown, hts, hlk, hK, hA, hL, hX⟩ := id X
  replace hf : ((if (1 : Int) = 0 then f_MString_isLatin1_17 K F B else if l0 < strL.length then (if (0 : Int) = 0 then f_MString_isLatin1_18 K 1 F B else f_MString_isLatin1_17 K F B) else none)) = some (r, F9, B9) := hf
  refine va_gets hx hb (hX.2.2.2.1 _ (List.mem_of_getElem? (i := 0) rfl) :) hS hown (hts _ k_3_79) (fun _ h => h) d_21_154_0 ?_
  refine W.eq (g2 := F0 m 3 ls [.int (iI 1)]) rfl ?_
  refine z0eq (tgt := 17) hx hb (by decide) d_21_154_3 (by decide) (fun h1 => ?_) (fun h1 => ?_)
  · replace hf := gpos hf h1
    exact b_MString_isLatin1_17 X hf hZ hS (lv_sub hl [] rfl)
  · replace hf := gneg hf h1
    refine lv_aload_n hx hb d_21_154_6 rfl (lv_at hl 0 rfl) ?_
    obtain ⟨g2, hf⟩ := gif hf
    refine vk_getf hx hb (zstr hX g2).1 hS hown (hts _ k_15_171) (fun _ h => h) d_21_154_7 ?_
    refine W.eq (g2 := F0 m 10 ls [.int (iI 0)]) rfl ?_
    refine z0ne (tgt := 17) hx hb (by decide) d_21_154_10 (by decide) (fun h3 => ?_) (fun h3 => ?_)
    · replace hf := gneg hf h3
      exact b_MString_isLatin1_17 X hf hZ hS (lv_sub hl [] rfl)
    · replace hf := gpos hf h3
      refine lv_iconst (v := iI 1) hx hb d_21_154_13 rfl ?_
      refine lv_goto (tgt := 18) hx hb d_21_154_14 (by decide) ?_
      exact b_MString_isLatin1_18 X hf hZ hS (lv_sub hl [] rfl)

abbrev Q_MString_length (K : zK) (D : va_G) (ca : Nat → ClassId) (ad : Nat → Int → Nat → Nat) (L : List Nat) (r : Int) (F : zF) (B : zB) (A : Nat → Prop) : Array Value → State → Outcome → State → Prop := va_Qi (S := Unit) (fun p _ => p = iI r) (fun _ => zPo D ca ad lnM K.2 L F B A) A
def f_MString_length (K : zK) (l0 : Nat) (F : zF) (B : zB) : zO := if l0 < strL.length then zbind (f_MString_coder K l0 F B) (fun r2 F2 B2 => some (zshr (zsl l0) r2, F2, B2)) else none
set_option maxHeartbeats 4000000 in
set_option maxRecDepth 100000 in
theorem c_MString_length {l : Launch} {D : va_G} {ca : Nat → ClassId} {ad : Nat → Int → Nat → Nat} {L : List Nat} {aS vS : Nat → Nat} {sz : Nat} {K : zK}  {l0 : Nat} {F F9 : zF} {B B9 : zB} {r : Int} (hf : f_MString_length K l0 F B = some (r, F9, B9)) : Met l ({ cls := "java/lang/String", name := "length", desc := "()I" } : Jvm.MethodName) (Cond.code ({ cls := "java/lang/String", name := "length", desc := "()I" } : Jvm.MethodName) prog_21_method_54_code 1 (Option.some Jvm.ClassFile.FieldType.int) :: wAll) ({ frames := 1, cells := 0, slots := 0, locals := 20 } : Room) (va_Pc [.ref (aS l0)] (zPre D ca ad lnM K.2 L aS vS F B sz)) (Q_MString_length K D ca ad L r F9 B9 (zA L sz)) 0 0 (zA L sz) := by
  refine zMet (Qc := Q_MString_length K D ca ad L r F9 B9) (lv := [(0, .ref (aS l0))]) (by decide) (Nat.le_of_ble_eq_true rfl) rfl (fun A p e s m below meth c ls X hZ hS hl => ?_)
  obtain ⟨hx, hb, hr, hml, hown, hts, hlk, hK, hA, hL, hX⟩ := id X
  replace hf : (if l0 < strL.length then zbind (f_MString_coder K l0 F B) (fun r2 F2 B2 => some (zshr (zsl l0) r2, F2, B2)) else none) = some (r, F9, B9) := hf
  refine lv_aload_n hx hb d_21_54_0 rfl (lv_at hl 0 rfl) ?_
  obtain ⟨g1, hf⟩ := gif hf
  refine vk_getf hx hb (zstr hX g1).2.1 hS hown (hts _ k_15_170) (fun _ h => h) d_21_54_1 ?_
  refine W.eq (g2 := F0 m 4 ls [.ref (vS l0)]) rfl ?_
  refine va_tlen (v := iI (zsl l0)) hx hb (zstr hX g1).2.2.1 hS (zsl_n _) d_21_54_4 ?_
  refine lv_aload_n hx hb d_21_54_5 rfl (lv_at hl 0 rfl) ?_
  obtain ⟨r2, F2, B2, hc2, hf⟩ := gbind hf
  refine va_calli (va_runV (As := []) (rest := [.int (iI (zsl l0))]) ⟨hx, hb, hml, hown, hts⟩ (c_MString_coder (l := l) hc2) (cwV 0 hts (gdV k_3_85 k_3_86 k_3_87 k_1_11 k_3_88) rfl rfl rfl (by decide +kernel) ⟨Nat.le_of_ble_eq_true rfl, Nat.le_of_ble_eq_true rfl⟩) ⟨zBlind, zsrecv hX g1 hS, zAt X hZ hS [.ref (aS l0)]⟩ rfl rfl hl.1 rfl (lv_room (Nat.le_of_ble_eq_true rfl)) d_21_54_6 ⟨Nat.le_of_ble_eq_true rfl, Nat.le_of_ble_eq_true rfl⟩) hS (fun q _ h => zAin X hS q h) (zAin X hS) (fun p2 u2 t2 H2 locs2 ht2 hv2 hw2 hB2 hz2 hk2 hS2 => ?_)
  have hZ2 := zBack X ht2 hB2
  subst hw2
  refine zshr_r hx hb d_21_54_9 ?_
  cases hf
  exact W.iret hx hb hr (fun t ht hW => ⟨⟨_, (), rfl, rfl, by rw [ht]; exact hZ2, va_K.moved hW.alike hK⟩, hS2.F ht⟩) hS2.2.2 d_21_54_10 hlk

abbrev Q_MPreconditions_checkIndex (K : zK) (D : va_G) (ca : Nat → ClassId) (ad : Nat → Int → Nat → Nat) (L : List Nat) (r : Int) (F : zF) (B : zB) (A : Nat → Prop) : Array Value → State → Outcome → State → Prop := va_Qi (S := Unit) (fun p _ => p = iI r) (fun _ => zPo D ca ad lnM K.2 L F B A) A
def f_MPreconditions_checkIndex_9 (K : zK) (l0 : Int) (l1 : Int) (F : zF) (B : zB) : zO := none
set_option maxHeartbeats 4000000 in
set_option maxRecDepth 100000 in
theorem b_MPreconditions_checkIndex_9 {D : va_G} {ca : Nat → ClassId} {ad : Nat → Int → Nat → Nat} {L : List Nat} {aS vS : Nat → Nat} {A : Nat → Prop} {p : Program} {l : Launch} {e : Env} {s : State} {m : MethodId} {args : Array Value} {below : List Frame} {meth : Method} {c : Code} {K : zK} {r : Int} {F9 : zF} {B9 : zB} (X : zX D ca L aS vS A p s m args meth c prog_24_method_11_code 3 (Option.some Jvm.ClassFile.FieldType.int) "jdk/internal/util/Preconditions") {l0 : Int} {l1 : Int} {F : zF} {B : zB} {H : Heap} {locs : List Loc} {ls : Array Slot} (hf : f_MPreconditions_checkIndex_9 K l0 l1 F B = some (r, F9, B9)) (hZ : zH D ca ad lnM K.2 L F B A H) (hS : va_S A s.heap H locs) (hl : lv_has ls 3 [(0, .int (iI l0)), (1, .int (iI l1))]) : W p l e ({ frames := 0, cells := 0, slots := 0, locals := 0 } : Room) s m args below meth c H locs 0 0 (MQ below (Q_MPreconditions_checkIndex K D ca ad L r F9 B9 A) args s 0 0 A) (F0 m 9 ls []) := by
  obtain ⟨hx, hb, hr, hml, hown, hts, hlk, hK, hA, hL, hX⟩ := id X
  replace hf : (none) = some (r, F9, B9) := hf
  cases hf

def f_MPreconditions_checkIndex (K : zK) (l0 : Int) (l1 : Int) (F : zF) (B : zB) : zO := if r32 l0 then (if l0 < 0 then f_MPreconditions_checkIndex_9 K l0 l1 F B else if r32 l1 then (if l0 < l1 then some (l0, F, B) else f_MPreconditions_checkIndex_9 K l0 l1 F B) else none) else none
set_option maxHeartbeats 4000000 in
set_option maxRecDepth 100000 in
theorem c_MPreconditions_checkIndex {l : Launch} {D : va_G} {ca : Nat → ClassId} {ad : Nat → Int → Nat → Nat} {L : List Nat} {aS vS : Nat → Nat} {sz : Nat} {K : zK} {l2 : Option Nat} {l0 : Int} {l1 : Int} {F F9 : zF} {B B9 : zB} {r : Int} (hf : f_MPreconditions_checkIndex K l0 l1 F B = some (r, F9, B9)) : Met l ({ cls := "jdk/internal/util/Preconditions", name := "checkIndex", desc := "(IILjava/util/function/BiFunction;)I" } : Jvm.MethodName) (Cond.code ({ cls := "jdk/internal/util/Preconditions", name := "checkIndex", desc := "(IILjava/util/function/BiFunction;)I" } : Jvm.MethodName) prog_24_method_11_code 3 (Option.some Jvm.ClassFile.FieldType.int) :: wAll) ({ frames := 0, cells := 0, slots := 0, locals := 0 } : Room) (va_Pc [.int (iI l0), .int (iI l1), va_rf l2] (zPre D ca ad lnM K.2 L aS vS F B sz)) (Q_MPreconditions_checkIndex K D ca ad L r F9 B9 (zA L sz)) 0 0 (zA L sz) := by
  refine zMet (Qc := Q_MPreconditions_checkIndex K D ca ad L r F9 B9) (lv := [(0, .int (iI l0)), (1, .int (iI l1)), (2, va_rf l2)]) (by decide) (by cases l2 <;> exact Nat.le_of_ble_eq_true rfl) (by cases l2 <;> rfl) (fun A p e s m below meth c ls X hZ hS hl => ?_)
  obtain ⟨hx, hb, hr, hml, hown, hts, hlk, hK, hA, hL, hX⟩ := id X
  replace hf : (if r32 l0 then (if l0 < 0 then f_MPreconditions_checkIndex_9 K l0 l1 F B else if r32 l1 then (if l0 < l1 then some (l0, F, B) else f_MPreconditions_checkIndex_9 K l0 l1 F B) else none) else none) = some (r, F9, B9) := hf
  refine lv_iload_n hx hb d_24_11_0 rfl (lv_at hl 0 rfl) ?_
  obtain ⟨g1, hf⟩ := gif hf
  refine z0lt (tgt := 9) hx hb g1 d_24_11_1 (by decide) (fun h2 => ?_) (fun h2 => ?_)
  · replace hf := gpos hf h2
    exact b_MPreconditions_checkIndex_9 X hf hZ hS (lv_sub hl [0, 1] rfl)
  · replace hf := gneg hf h2
    refine lv_iload_n hx hb d_24_11_4 rfl (lv_at hl 0 rfl) ?_
    refine lv_iload_n hx hb d_24_11_5 rfl (lv_at hl 1 rfl) ?_
    obtain ⟨g3, hf⟩ := gif hf
    refine zlt (tgt := 16) hx hb g1 g3 d_24_11_6 (by decide) (fun h4 => ?_) (fun h4 => ?_)
    · replace hf := gpos hf h4
      refine lv_iload_n hx hb d_24_11_16 rfl (lv_at hl 0 rfl) ?_
      cases hf
      exact W.iret hx hb hr (fun t ht hW => ⟨⟨_, (), rfl, rfl, by rw [ht]; exact hZ, va_K.moved hW.alike hK⟩, hS.F ht⟩) hS.2.2 d_24_11_17 hlk
    · replace hf := gneg hf h4
      exact b_MPreconditions_checkIndex_9 X hf hZ hS (lv_sub hl [0, 1] rfl)

abbrev Q_MString_checkIndex (K : zK) (D : va_G) (ca : Nat → ClassId) (ad : Nat → Int → Nat → Nat) (L : List Nat) (r : Int) (F : zF) (B : zB) (A : Nat → Prop) : Array Value → State → Outcome → State → Prop := va_Qv (S := Unit) (fun _ => True) (fun _ => zPo D ca ad lnM K.2 L F B A) A
def f_MString_checkIndex (K : zK) (l0 : Int) (l1 : Int) (F : zF) (B : zB) : zO := zbind (f_MPreconditions_checkIndex K l0 l1 F B) (fun r2 F2 B2 => some (0, F2, B2))
set_option maxHeartbeats 4000000 in
set_option maxRecDepth 100000 in
theorem c_MString_checkIndex {l : Launch} {D : va_G} {ca : Nat → ClassId} {ad : Nat → Int → Nat → Nat} {L : List Nat} {aS vS : Nat → Nat} {sz : Nat} {K : zK}  {l0 : Int} {l1 : Int} {F F9 : zF} {B B9 : zB} {r : Int} (hf : f_MString_checkIndex K l0 l1 F B = some (r, F9, B9)) : Met l ({ cls := "java/lang/String", name := "checkIndex", desc := "(II)V" } : Jvm.MethodName) (Cond.code ({ cls := "java/lang/String", name := "checkIndex", desc := "(II)V" } : Jvm.MethodName) prog_21_method_155_code 2 (Option.none : Option Jvm.ClassFile.FieldType) :: wAll) ({ frames := 1, cells := 0, slots := 0, locals := 22 } : Room) (va_Pc [.int (iI l0), .int (iI l1)] (zPre D ca ad lnM K.2 L aS vS F B sz)) (Q_MString_checkIndex K D ca ad L r F9 B9 (zA L sz)) 0 0 (zA L sz) := by
  refine zMet (Qc := Q_MString_checkIndex K D ca ad L r F9 B9) (lv := [(0, .int (iI l0)), (1, .int (iI l1))]) (by decide) (Nat.le_of_ble_eq_true rfl) rfl (fun A p e s m below meth c ls X hZ hS hl => ?_)
  obtain ⟨hx, hb, hr, hml, hown, hts, hlk, hK, hA, hL, hX⟩ := id X
  replace hf : (zbind (f_MPreconditions_checkIndex K l0 l1 F B) (fun r2 F2 B2 => some (0, F2, B2))) = some (r, F9, B9) := hf
  refine lv_iload_n hx hb d_21_155_0 rfl (lv_at hl 0 rfl) ?_
  refine lv_iload_n hx hb d_21_155_1 rfl (lv_at hl 1 rfl) ?_
  obtain ⟨o1, ho1⟩ := zfmt hX
  refine va_gets hx hb ho1 hS hown (hts _ k_3_120) (fun _ h => h) d_21_155_2 ?_
  obtain ⟨r2, F2, B2, hc2, hf⟩ := gbind hf
  refine va_calli (va_runS (As := [.int (iI l0), .int (iI l1), va_rf o1]) (rest := []) ⟨hx, hb, hml, hown, hts⟩ (c_MPreconditions_checkIndex (l := l) hc2) (va_cwS 3 hts (gdS k_7_143 k_7_144 k_1_13 k_7_145) rfl rfl rfl (by decide +kernel) ⟨Nat.le_of_ble_eq_true rfl, Nat.le_of_ble_eq_true rfl⟩) (zPS X hZ hS [.int (iI l0), .int (iI l1), va_rf o1]) rfl rfl hl.1 rfl (lv_room (Nat.le_of_ble_eq_true rfl)) d_21_155_5 ⟨Nat.le_of_ble_eq_true rfl, Nat.le_of_ble_eq_true rfl⟩) hS (fun q _ h => zAin X hS q h) (zAin X hS) (fun p2 u2 t2 H2 locs2 ht2 hv2 hw2 hB2 hz2 hk2 hS2 => ?_)
  have hZ2 := zBack X ht2 hB2
  subst hw2
  refine lv_pop hx hb d_21_155_8 rfl ?_
  cases hf
  exact W.vret hx hb hr (fun t ht hW => ⟨⟨(), rfl, trivial, by rw [ht]; exact hZ2, va_K.moved hW.alike hK⟩, hS2.F ht⟩) hS2.2.2 d_21_155_9 hlk

abbrev Q_MStringLatin1_charAt (K : zK) (D : va_G) (ca : Nat → ClassId) (ad : Nat → Int → Nat → Nat) (L : List Nat) (r : Int) (F : zF) (B : zB) (A : Nat → Prop) : Array Value → State → Outcome → State → Prop := va_Qi (S := Unit) (fun p _ => p = iI r) (fun _ => zPo D ca ad lnM K.2 L F B A) A
def f_MStringLatin1_charAt (K : zK) (l0 : Nat) (l1 : Int) (F : zF) (B : zB) : zO := if l0 < strL.length then zbind (f_MString_checkIndex K l1 (zsl l0) F B) (fun r2 F2 B2 => if 0 ≤ l1 ∧ l1 < zsl l0 then if 0 ≤ (zi2c (zand (zsb l0 l1) 255)) ∧ (zi2c (zand (zsb l0 l1) 255)) < 65536 then some (zi2c (zand (zsb l0 l1) 255), F2, B2) else none else none) else none
set_option maxHeartbeats 4000000 in
set_option maxRecDepth 100000 in
theorem c_MStringLatin1_charAt {l : Launch} {D : va_G} {ca : Nat → ClassId} {ad : Nat → Int → Nat → Nat} {L : List Nat} {aS vS : Nat → Nat} {sz : Nat} {K : zK}  {l0 : Nat} {l1 : Int} {F F9 : zF} {B B9 : zB} {r : Int} (hf : f_MStringLatin1_charAt K l0 l1 F B = some (r, F9, B9)) : Met l ({ cls := "java/lang/StringLatin1", name := "charAt", desc := "([BI)C" } : Jvm.MethodName) (Cond.code ({ cls := "java/lang/StringLatin1", name := "charAt", desc := "([BI)C" } : Jvm.MethodName) prog_22_method_2_code 2 (Option.some Jvm.ClassFile.FieldType.char) :: wAll) ({ frames := 2, cells := 0, slots := 0, locals := 43 } : Room) (va_Pc [.ref (vS l0), .int (iI l1)] (zPre D ca ad lnM K.2 L aS vS F B sz)) (Q_MStringLatin1_charAt K D ca ad L r F9 B9 (zA L sz)) 0 0 (zA L sz) := by
  refine zMet (Qc := Q_MStringLatin1_charAt K D ca ad L r F9 B9) (lv := [(0, .ref (vS l0)), (1, .int (iI l1))]) (by decide) (Nat.le_of_ble_eq_true rfl) rfl (fun A p e s m below meth c ls X hZ hS hl => ?_)
  obtain ⟨hx, hb, hr, hml, hown, hts, hlk, hK, hA, hL, hX⟩ := id X
  replace hf : (if l0 < strL.length then zbind (f_MString_checkIndex K l1 (zsl l0) F B) (fun r2 F2 B2 => if 0 ≤ l1 ∧ l1 < zsl l0 then if 0 ≤ (zi2c (zand (zsb l0 l1) 255)) ∧ (zi2c (zand (zsb l0 l1) 255)) < 65536 then some (zi2c (zand (zsb l0 l1) 255), F2, B2) else none else none) else none) = some (r, F9, B9) := hf
  refine lv_iload_n hx hb d_22_2_0 rfl (lv_at hl 1 rfl) ?_
  refine lv_aload_n hx hb d_22_2_1 rfl (lv_at hl 0 rfl) ?_
  obtain ⟨g1, hf⟩ := gif hf
  refine va_tlen (v := iI (zsl l0)) hx hb (zstr hX g1).2.2.1 hS (zsl_n _) d_22_2_2 ?_
  obtain ⟨r2, F2, B2, hc2, hf⟩ := gbind hf
  refine va_callv (va_runS (As := [.int (iI l1), .int (iI (zsl l0))]) (rest := []) ⟨hx, hb, hml, hown, hts⟩ (c_MString_checkIndex (l := l) hc2) (va_cwS 2 hts (gdS k_7_140 k_7_141 k_1_11 k_7_142) rfl rfl rfl (by decide +kernel) ⟨Nat.le_of_ble_eq_true rfl, Nat.le_of_ble_eq_true rfl⟩) (zPS X hZ hS [.int (iI l1), .int (iI (zsl l0))]) rfl rfl hl.1 rfl (lv_room (Nat.le_of_ble_eq_true rfl)) d_22_2_3 ⟨Nat.le_of_ble_eq_true rfl, Nat.le_of_ble_eq_true rfl⟩) hS (fun q _ h => zAin X hS q h) (zAin X hS) (fun u2 t2 H2 locs2 ht2 hv2 hw2 hB2 hz2 hk2 hS2 => ?_)
  have hZ2 := zBack X ht2 hB2
  refine lv_aload_n hx hb d_22_2_6 rfl (lv_at hl 0 rfl) ?_
  refine lv_iload_n hx hb d_22_2_7 rfl (lv_at hl 1 rfl) ?_
  obtain ⟨g3, hf⟩ := gif hf
  refine va_tb (v := .int (iI (zsb l0 l1))) hx hb (zstr hX g1).2.2.1 hS2 (zs_in g1 g3) (zsb_v g1 g3) d_22_2_8 ?_
  refine lv_sipush (v := iI 255) hx hb d_22_2_9 (by decide) ?_
  refine zand_r hx hb d_22_2_12 ?_
  refine zi2c_r hx hb d_22_2_13 ?_
  obtain ⟨g4, hf⟩ := gif hf
  cases hf
  exact W.zret hx hb hr (zchar g4) (fun t ht hW => ⟨⟨_, (), rfl, rfl, by rw [ht]; exact hZ2, va_K.moved hW.alike hK⟩, hS2.F ht⟩) hS2.2.2 d_22_2_14 hlk

abbrev Q_MString_charAt (K : zK) (D : va_G) (ca : Nat → ClassId) (ad : Nat → Int → Nat → Nat) (L : List Nat) (r : Int) (F : zF) (B : zB) (A : Nat → Prop) : Array Value → State → Outcome → State → Prop := va_Qi (S := Unit) (fun p _ => p = iI r) (fun _ => zPo D ca ad lnM K.2 L F B A) A
def f_MString_charAt (K : zK) (l0 : Nat) (l1 : Int) (F : zF) (B : zB) : zO := if l0 < strL.length then zbind (f_MString_isLatin1 K l0 F B) (fun r2 F2 B2 => if r32 r2 then (if r2 = 0 then none else zbind (f_MStringLatin1_charAt K l0 l1 F2 B2) (fun r5 F5 B5 => if 0 ≤ r5 ∧ r5 < 65536 then some (r5, F5, B5) else none)) else none) else none
set_option maxHeartbeats 4000000 in
set_option maxRecDepth 100000 in
theorem c_MString_charAt {l : Launch} {D : va_G} {ca : Nat → ClassId} {ad : Nat → Int → Nat → Nat} {L : List Nat} {aS vS : Nat → Nat} {sz : Nat} {K : zK}  {l0 : Nat} {l1 : Int} {F F9 : zF} {B B9 : zB} {r : Int} (hf : f_MString_charAt K l0 l1 F B = some (r, F9, B9)) : Met l ({ cls := "java/lang/String", name := "charAt", desc := "(I)C" } : Jvm.MethodName) (Cond.code ({ cls := "java/lang/String", name := "charAt", desc := "(I)C" } : Jvm.MethodName) prog_21_method_56_code 2 (Option.some Jvm.ClassFile.FieldType.char) :: wAll) ({ frames := 3, cells := 0, slots := 0, locals := 64 } : Room) (va_Pc [.ref (aS l0), .int (iI l1)] (zPre D ca ad lnM K.2 L aS vS F B sz)) (Q_MString_charAt K D ca ad L r F9 B9 (zA L sz)) 0 0 (zA L sz) := by
  refine zMet (Qc := Q_MString_charAt K D ca ad L r F9 B9) (lv := [(0, .ref (aS l0)), (1, .int (iI l1))]) (by decide) (Nat.le_of_ble_eq_true rfl) rfl (fun A p e s m below meth c ls X hZ hS hl => ?_)
  obtain ⟨hx, hb, hr, hml, hown, hts, hlk, hK, hA, hL, hX⟩ := id X
  replace hf : (if l0 < strL.length then zbind (f_MString_isLatin1 K l0 F B) (fun r2 F2 B2 => if r32 r2 then (if r2 = 0 then none else zbind (f_MStringLatin1_charAt K l0 l1 F2 B2) (fun r5 F5 B5 => if 0 ≤ r5 ∧ r5 < 65536 then some (r5, F5, B5) else none)) else none) else none) = some (r, F9, B9) := hf
  refine lv_aload_n hx hb d_21_56_0 rfl (lv_at hl 0 rfl) ?_
  obtain ⟨g1, hf⟩ := gif hf
  obtain ⟨r2, F2, B2, hc2, hf⟩ := gbind hf
  refine va_calli (va_runV (As := []) (rest := []) ⟨hx, hb, hml, hown, hts⟩ (c_MString_isLatin1 (l := l) hc2) (cwV 0 hts (gdV k_3_75 k_3_76 k_3_77 k_1_11 k_3_78) rfl rfl rfl (by decide +kernel) ⟨Nat.le_of_ble_eq_true rfl, Nat.le_of_ble_eq_true rfl⟩) ⟨zBlind, zsrecv hX g1 hS, zAt X hZ hS [.ref (aS l0)]⟩ rfl rfl hl.1 rfl (lv_room (Nat.le_of_ble_eq_true rfl)) d_21_56_1 ⟨Nat.le_of_ble_eq_true rfl, Nat.le_of_ble_eq_true rfl⟩) hS (fun q _ h => zAin X hS q h) (zAin X hS) (fun p2 u2 t2 H2 locs2 ht2 hv2 hw2 hB2 hz2 hk2 hS2 => ?_)
  have hZ2 := zBack X ht2 hB2
  subst hw2
  obtain ⟨g3, hf⟩ := gif hf
  refine z0eq (tgt := 16) hx hb g3 d_21_56_4 (by decide) (fun h4 => ?_) (fun h4 => ?_)
  · replace hf := gpos hf h4
    refine lv_aload_n hx hb d_21_56_16 rfl (lv_at hl 0 rfl) ?_
    refine vk_getf hx hb (zstr hX g1).2.1 hS2 hown (hts _ k_15_170) (fun _ h => h) d_21_56_17 ?_
    refine W.eq (g2 := F0 m 20 ls [.ref (vS l0)]) rfl ?_
    refine lv_iload_n hx hb d_21_56_20 rfl (lv_at hl 1 rfl) ?_
    cases hf
  · replace hf := gneg hf h4
    refine lv_aload_n hx hb d_21_56_7 rfl (lv_at hl 0 rfl) ?_
    refine vk_getf hx hb (zstr hX g1).2.1 hS2 hown (hts _ k_15_170) (fun _ h => h) d_21_56_8 ?_
    refine W.eq (g2 := F0 m 11 ls [.ref (vS l0)]) rfl ?_
    refine lv_iload_n hx hb d_21_56_11 rfl (lv_at hl 1 rfl) ?_
    obtain ⟨r5, F5, B5, hc5, hf⟩ := gbind hf
    refine va_calli (va_runS (As := [.ref (vS l0), .int (iI l1)]) (rest := []) ⟨hx, hb, hml, hown, hts⟩ (c_MStringLatin1_charAt (l := l) hc5) (va_cwS 2 hts (gdS k_7_137 k_7_138 k_1_12 k_7_139) rfl rfl rfl (by decide +kernel) ⟨Nat.le_of_ble_eq_true rfl, Nat.le_of_ble_eq_true rfl⟩) (zPS X hZ2 hS2 [.ref (vS l0), .int (iI l1)]) rfl rfl hl.1 rfl (lv_room (Nat.le_of_ble_eq_true rfl)) d_21_56_12 ⟨Nat.le_of_ble_eq_true rfl, Nat.le_of_ble_eq_true rfl⟩) hS2 (fun q _ h => zAin X hS2 q h) (zAin X hS2) (fun p5 u5 t5 H5 locs5 ht5 hv5 hw5 hB5 hz5 hk5 hS5 => ?_)
    have hZ5 := zBack X ht5 hB5
    subst hw5
    obtain ⟨g6, hf⟩ := gif hf
    cases hf
    exact W.zret hx hb hr (zchar g6) (fun t ht hW => ⟨⟨_, (), rfl, rfl, by rw [ht]; exact hZ5, va_K.moved hW.alike hK⟩, hS5.F ht⟩) hS5.2.2 d_21_56_15 hlk

abbrev Q_MM_code (K : zK) (D : va_G) (ca : Nat → ClassId) (ad : Nat → Int → Nat → Nat) (L : List Nat) (r : Int) (F : zF) (B : zB) (A : Nat → Prop) : Array Value → State → Outcome → State → Prop := va_Ql (S := Unit) (fun p _ => p = lI r) (fun _ => zPo D ca ad lnM K.2 L F B A) A
def f_MM_code_4 (K : zK) : Nat → Int → Int → Nat → zF → zB → zO
  | 0, _, _, _, _, _ => none
  | n + 1, l3, l1, l0, F, B => if l0 < strL.length then zbind (f_MString_length K l0 F B) (fun r2 F2 B2 => if r32 l3 then if r32 r2 then (if r2 ≤ l3 then some (l1, F2, B2) else zbind (f_MString_charAt K l0 l3 F2 B2) (fun r6 F6 B6 => if r32 r6 then f_MM_code_4 K n (l3 + 1) (zlor (zlshl l1 8) r6) l0 F6 B6 else none)) else none else none) else none
set_option maxHeartbeats 4000000 in
set_option maxRecDepth 100000 in
theorem b_MM_code_4 {D : va_G} {ca : Nat → ClassId} {ad : Nat → Int → Nat → Nat} {L : List Nat} {aS vS : Nat → Nat} {A : Nat → Prop} {p : Program} {l : Launch} {e : Env} {s : State} {m : MethodId} {args : Array Value} {below : List Frame} {meth : Method} {c : Code} {K : zK} {r : Int} {F9 : zF} {B9 : zB} (X : zX D ca L aS vS A p s m args meth c prog_15_method_24_code 4 (Option.some Jvm.ClassFile.FieldType.long) "StaveHouseModel") : ∀ {n : Nat} {l3 : Int} {l1 : Int} {l0 : Nat} {F : zF} {B : zB} {H : Heap} {locs : List Loc} {ls : Array Slot}, f_MM_code_4 K n l3 l1 l0 F B = some (r, F9, B9) → zH D ca ad lnM K.2 L F B A H → va_S A s.heap H locs → lv_has ls 4 [(3, .int (iI l3)), (1, .long (lI l1)), (0, .ref (aS l0))] → W p l e ({ frames := 4, cells := 0, slots := 0, locals := 85 } : Room) s m args below meth c H locs 0 0 (MQ below (Q_MM_code K D ca ad L r F9 B9 A) args s 0 0 A) (F0 m 4 ls []) := by
  obtain ⟨hx, hb, hr, hml, hown, hts, hlk, hK, hA, hL, hX⟩ := id X
  intro n
  induction n with
  | zero =>
    intros
    rename_i hf _ _ _
    cases hf
  | succ n ih =>
    intro l3 l1 l0 F B H locs ls hf hZ hS hl
    replace hf : (if l0 < strL.length then zbind (f_MString_length K l0 F B) (fun r2 F2 B2 => if r32 l3 then if r32 r2 then (if r2 ≤ l3 then some (l1, F2, B2) else zbind (f_MString_charAt K l0 l3 F2 B2) (fun r6 F6 B6 => if r32 r6 then f_MM_code_4 K n (l3 + 1) (zlor (zlshl l1 8) r6) l0 F6 B6 else none)) else none else none) else none) = some (r, F9, B9) := hf
    refine lv_iload_n hx hb d_15_24_4 rfl (lv_at hl 0 rfl) ?_
    refine lv_aload_n hx hb d_15_24_5 rfl (lv_at hl 2 rfl) ?_
    obtain ⟨g1, hf⟩ := gif hf
    obtain ⟨r2, F2, B2, hc2, hf⟩ := gbind hf
    refine va_calli (va_runV (As := []) (rest := [.int (iI l3)]) ⟨hx, hb, hml, hown, hts⟩ (c_MString_length (l := l) hc2) (cwV 0 hts (gdV k_10_194 k_3_82 k_3_83 k_1_11 k_3_84) rfl rfl rfl (by decide +kernel) ⟨Nat.le_of_ble_eq_true rfl, Nat.le_of_ble_eq_true rfl⟩) ⟨zBlind, zsrecv hX g1 hS, zAt X hZ hS [.ref (aS l0)]⟩ rfl rfl hl.1 rfl (lv_room (Nat.le_of_ble_eq_true rfl)) d_15_24_6 ⟨Nat.le_of_ble_eq_true rfl, Nat.le_of_ble_eq_true rfl⟩) hS (fun q _ h => zAin X hS q h) (zAin X hS) (fun p2 u2 t2 H2 locs2 ht2 hv2 hw2 hB2 hz2 hk2 hS2 => ?_)
    have hZ2 := zBack X ht2 hB2
    subst hw2
    obtain ⟨g3, hf⟩ := gif hf
    obtain ⟨g4, hf⟩ := gif hf
    refine zge (tgt := 30) hx hb g3 g4 d_15_24_9 (by decide) (fun h5 => ?_) (fun h5 => ?_)
    · replace hf := gpos hf h5
      refine lv_lload_n hx hb d_15_24_30 rfl (lv_at hl 1 rfl) ?_
      cases hf
      exact W.lret hx hb hr (fun t ht hW => ⟨⟨_, (), rfl, rfl, by rw [ht]; exact hZ2, va_K.moved hW.alike hK⟩, hS2.F ht⟩) hS2.2.2 d_15_24_31 hlk
    · replace hf := gneg hf h5
      refine lv_lload_n hx hb d_15_24_12 rfl (lv_at hl 1 rfl) ?_
      refine lv_bipush (v := iI 8) hx hb d_15_24_13 (by decide) ?_
      refine zlshl_r hx hb d_15_24_15 ?_
      refine lv_aload_n hx hb d_15_24_16 rfl (lv_at hl 2 rfl) ?_
      refine lv_iload_n hx hb d_15_24_17 rfl (lv_at hl 0 rfl) ?_
      obtain ⟨r6, F6, B6, hc6, hf⟩ := gbind hf
      refine va_calli (va_runV (As := [.int (iI l3)]) (rest := [.long (lI (zlshl l1 8))]) ⟨hx, hb, hml, hown, hts⟩ (c_MString_charAt (l := l) hc6) (cwV 1 hts (gdV k_10_195 k_7_134 k_7_135 k_1_11 k_7_136) rfl rfl rfl (by decide +kernel) ⟨Nat.le_of_ble_eq_true rfl, Nat.le_of_ble_eq_true rfl⟩) ⟨zBlind, zsrecv hX g1 hS2, zAt X hZ2 hS2 [.ref (aS l0), .int (iI l3)]⟩ rfl rfl hl.1 rfl (lv_room (Nat.le_of_ble_eq_true rfl)) d_15_24_18 ⟨Nat.le_of_ble_eq_true rfl, Nat.le_of_ble_eq_true rfl⟩) hS2 (fun q _ h => zAin X hS2 q h) (zAin X hS2) (fun p6 u6 t6 H6 locs6 ht6 hv6 hw6 hB6 hz6 hk6 hS6 => ?_)
      have hZ6 := zBack X ht6 hB6
      subst hw6
      obtain ⟨g7, hf⟩ := gif hf
      refine zi2l hx hb g7 d_15_24_21 ?_
      refine zlor_r hx hb d_15_24_22 ?_
      refine lv_lstore_n (lv' := [(1, .long (lI (zlor (zlshl l1 8) r6))), (3, .int (iI l3)), (0, .ref (aS l0))]) hx hb d_15_24_23 rfl hl (by decide) rfl (fun ls hl => ?_)
      refine lv_iinc (v := iI (l3 + 1)) (lv' := [(3, .int (iI (l3 + 1))), (1, .long (lI (zlor (zlshl l1 8) r6))), (0, .ref (aS l0))]) hx hb d_15_24_24 hl (k := 1) rfl (iI_add _ 1) (by decide) rfl (fun ls hl => ?_)
      refine lv_goto (tgt := 4) hx hb d_15_24_27 (by decide) ?_
      exact ih hf hZ6 hS6 (lv_sub hl [0, 1, 2] rfl)

def f_MM_code (K : zK) (l0 : Nat) (F : zF) (B : zB) : zO := f_MM_code_4 K K.1 0 0 l0 F B
set_option maxHeartbeats 4000000 in
set_option maxRecDepth 100000 in
theorem c_MM_code {l : Launch} {D : va_G} {ca : Nat → ClassId} {ad : Nat → Int → Nat → Nat} {L : List Nat} {aS vS : Nat → Nat} {sz : Nat} {K : zK}  {l0 : Nat} {F F9 : zF} {B B9 : zB} {r : Int} (hf : f_MM_code K l0 F B = some (r, F9, B9)) : Met l ({ cls := "StaveHouseModel", name := "code", desc := "(Ljava/lang/String;)J" } : Jvm.MethodName) (Cond.code ({ cls := "StaveHouseModel", name := "code", desc := "(Ljava/lang/String;)J" } : Jvm.MethodName) prog_15_method_24_code 4 (Option.some Jvm.ClassFile.FieldType.long) :: wAll) ({ frames := 4, cells := 0, slots := 0, locals := 85 } : Room) (va_Pc [.ref (aS l0)] (zPre D ca ad lnM K.2 L aS vS F B sz)) (Q_MM_code K D ca ad L r F9 B9 (zA L sz)) 0 0 (zA L sz) := by
  refine zMet (Qc := Q_MM_code K D ca ad L r F9 B9) (lv := [(0, .ref (aS l0))]) (by decide) (Nat.le_of_ble_eq_true rfl) rfl (fun A p e s m below meth c ls X hZ hS hl => ?_)
  obtain ⟨hx, hb, hr, hml, hown, hts, hlk, hK, hA, hL, hX⟩ := id X
  replace hf : (f_MM_code_4 K K.1 0 0 l0 F B) = some (r, F9, B9) := hf
  refine lv_lconst (v := lI 0) hx hb d_15_24_0 (by decide) ?_
  refine lv_lstore_n (lv' := [(1, .long (lI 0)), (0, .ref (aS l0))]) hx hb d_15_24_1 rfl hl (by decide) rfl (fun ls hl => ?_)
  refine lv_iconst (v := iI 0) hx hb d_15_24_2 rfl ?_
  refine lv_istore_n (lv' := [(3, .int (iI 0)), (1, .long (lI 0)), (0, .ref (aS l0))]) hx hb d_15_24_3 rfl hl (by decide) rfl (fun ls hl => ?_)
  exact b_MM_code_4 X hf hZ hS (lv_sub hl [0, 1, 2] rfl)

abbrev Q_MP_init (K : zK) (D : va_G) (ca : Nat → ClassId) (ad : Nat → Int → Nat → Nat) (a : Nat) (r : Int) (F : zF) (B : zB) (K9 : zK) (A : Nat → Prop) : Array Value → State → Outcome → State → Prop := va_Qv (S := (Nat → Int → Nat → Nat) × List Nat) (fun u => zG ad K.2 u.1 K9.2 ∧ u.1 13 r 0 = a) (fun u => zPo D ca u.1 lnM K9.2 u.2 F B A) A
def f_MP_init (Ki : zK) (F : zF) (B : zB) : zOm := if 0 ≤ Ki.2 13 then some (Ki.2 13, (zinF F 13 (Ki.2 13) [0, 0, 0, 0, 0, 0, 0, 0, 0, 0, 0, 0, 0, 0, 0, 0, 0, 0, 0, 0, 0, 0, 0, 0, 0, 0, 0, 0, 0, 0, 0, 0, 0, 0, 0, 0, 0, 0, 0, 0, 0, 0, 0, 0, 0, 0, 0, 0, 0, 0, 0, 0, 0, 0, 0, 0, 0, 0, 0, 0, 0, 0, 0, 0, 0, 0, 0, 0, 0, 0, 0, 0, 0, 0, 0, 0, 0, 0, 0, 0, 0]), (zinB B 13 (Ki.2 13) (fun _ _ => 0)), (Ki.1, zinN Ki.2 13)) else none
set_option maxHeartbeats 4000000 in
set_option maxRecDepth 100000 in
theorem c_MP_init {l : Launch} {D : va_G} {ca : Nat → ClassId} {ad : Nat → Int → Nat → Nat} {L : List Nat} {aS vS : Nat → Nat} {sz a : Nat} {Ki : zK} {F : zF} {B : zB} {r : Int} {F9 : zF} {B9 : zB} {K9 : zK} (hf : f_MP_init Ki F B = some (r, F9, B9, K9)) : Met l ({ cls := "StaveHouseModel$Piece", name := "<init>", desc := "()V" } : Jvm.MethodName) (Cond.code ({ cls := "StaveHouseModel$Piece", name := "<init>", desc := "()V" } : Jvm.MethodName) prog_16_method_1_code 1 (Option.none : Option Jvm.ClassFile.FieldType) :: wAll) ({ frames := 1, cells := 61, slots := 186625, locals := 12 } : Room) (va_Pc [.ref a] (zPreX D ca ad lnM Ki.2 L aS vS F B a (.inr (13, rg 81 (fun j => defaultValue (tyX13 j)))) sz)) (Q_MP_init Ki D ca ad a r F9 B9 K9 (zA (a :: L) sz)) 61 186625 (zA (a :: L) sz) := by
  refine zMetX (Qc := Q_MP_init Ki D ca ad a r F9 B9 K9) (lv := [(0, .ref a)]) (by decide) (Nat.le_of_ble_eq_true rfl) rfl (fun A p e s m below meth c ls X hnm hZ hS hl => ?_)
  obtain ⟨hx, hb, hr, hml, hown, hts, hlk, hK, hA, hL, hX⟩ := id X
  replace hnm : meth.name = "<init>" := hnm
  have hG : zG ad Ki.2 ad Ki.2 := zG.rf
  replace hf : (if 0 ≤ Ki.2 13 then some (Ki.2 13, (zinF F 13 (Ki.2 13) [0, 0, 0, 0, 0, 0, 0, 0, 0, 0, 0, 0, 0, 0, 0, 0, 0, 0, 0, 0, 0, 0, 0, 0, 0, 0, 0, 0, 0, 0, 0, 0, 0, 0, 0, 0, 0, 0, 0, 0, 0, 0, 0, 0, 0, 0, 0, 0, 0, 0, 0, 0, 0, 0, 0, 0, 0, 0, 0, 0, 0, 0, 0, 0, 0, 0, 0, 0, 0, 0, 0, 0, 0, 0, 0, 0, 0, 0, 0, 0, 0]), (zinB B 13 (Ki.2 13) (fun _ _ => 0)), (Ki.1, zinN Ki.2 13)) else none) = some (r, F9, B9, K9) := hf
  refine lv_aload_n hx hb d_16_1_0 rfl (lv_at hl 0 rfl) ?_
  refine W.objInit hx hb hown (hts _ k_9_124) (hts _ k_1_30) (hts _ k_1_31) rfl (by rw [hml]; exact hl.1) rfl d_16_1_1 (Nat.le_of_ble_eq_true rfl) (Nat.le_of_ble_eq_true rfl) ?_
  refine W.eq (g2 := F0 m 4 ls []) rfl ?_
  refine lv_aload_n hx hb d_16_1_4 rfl (lv_at hl 0 rfl) ?_
  refine lv_iconst (v := iI 4) hx hb d_16_1_5 rfl ?_
  refine zxnewa (atype := .int) hx hb hts (ty := .int) rfl k_1_57 hK 0 rfl (fun _ _ => gu_int) hZ hS hA (a0 := (4, .inl (zAr (fun _ => 0)))) (fun _ => rfl) (by decide) (N' := 4) (by decide) (Nat.le_of_ble_eq_true rfl) (Nat.le_of_ble_eq_true rfl) (Nat.le_of_ble_eq_true rfl) d_16_1_6 (fun q1 H1 hZ1 hS1 => ?_)
  replace hZ1 := zHx.rot hZ1
  replace hZ1 : zHx D ca ad lnM Ki.2 L F B ((q1, .inl (ca 0, 4, .inl (zAr (fun _ => 0)))) :: (a, .inr (13, rg 81 (fun j => defaultValue (tyX13 j)))) :: []) A H1 := hZ1
  refine W.widen (k := 1) (n := 4) (Nat.le_of_ble_eq_true rfl) (Nat.le_of_ble_eq_true rfl) ?_
  obtain ⟨g2, hg2⟩ : ∃ gz : Nat → Value, gz = va_up (fun j => defaultValue (tyX13 j)) 8 (.ref q1) := ⟨_, rfl⟩
  refine zxputF hx hb hts inW_13 tyX13 tyX13_ok nmX13 hown hK hZ1 hS1 1 rfl rfl (k := 8) (by decide) k_9_133 rfl hnm rfl rfl rfl d_16_1_8 (fun H2 locs2 hZ2 hS2 => ?_)
  rw [← hg2] at hZ2
  obtain ⟨Y2, hY2⟩ : ∃ Yz : va_W, Yz = (q1, .inl (ca 0, 4, .inl (zAr (fun _ => 0)))) :: [] := ⟨_, rfl⟩
  replace hZ2 : zHx D ca ad lnM Ki.2 L F B ((a, .inr (13, rg 81 g2)) :: (q1, .inl (ca 0, 4, .inl (zAr (fun _ => 0)))) :: []) A H2 := zHx.swp hZ2
  rw [← hY2] at hZ2
  replace hZ2 : zHx D ca ad lnM Ki.2 L F B ((a, .inr (13, rg 81 g2)) :: Y2) A H2 := hZ2
  clear hZ1 hS1
  refine lv_aload_n hx hb d_16_1_11 rfl (lv_at hl 0 rfl) ?_
  refine lv_iconst (v := iI 4) hx hb d_16_1_12 rfl ?_
  refine zxnewa (atype := .int) hx hb hts (ty := .int) rfl k_1_57 hK 0 rfl (fun _ _ => gu_int) hZ2 hS2 hA (a0 := (4, .inl (zAr (fun _ => 0)))) (fun _ => rfl) (by decide) (N' := 4) (by decide) (Nat.le_of_ble_eq_true rfl) (Nat.le_of_ble_eq_true rfl) (Nat.le_of_ble_eq_true rfl) d_16_1_13 (fun q3 H3 hZ3 hS3 => ?_)
  replace hZ3 := zHx.rot hZ3
  replace hZ3 : zHx D ca ad lnM Ki.2 L F B ((q3, .inl (ca 0, 4, .inl (zAr (fun _ => 0)))) :: (a, .inr (13, rg 81 g2)) :: Y2) A H3 := hZ3
  clear hZ2 hS2
  refine W.widen (k := 2) (n := 8) (Nat.le_of_ble_eq_true rfl) (Nat.le_of_ble_eq_true rfl) ?_
  obtain ⟨g4, hg4⟩ : ∃ gz : Nat → Value, gz = va_up g2 9 (.ref q3) := ⟨_, rfl⟩
  refine zxputF hx hb hts inW_13 tyX13 tyX13_ok nmX13 hown hK hZ3 hS3 1 rfl rfl (k := 9) (by decide) k_9_135 rfl hnm rfl rfl rfl d_16_1_15 (fun H4 locs4 hZ4 hS4 => ?_)
  rw [← hg4] at hZ4
  obtain ⟨Y4, hY4⟩ : ∃ Yz : va_W, Yz = (q3, .inl (ca 0, 4, .inl (zAr (fun _ => 0)))) :: Y2 := ⟨_, rfl⟩
  replace hZ4 : zHx D ca ad lnM Ki.2 L F B ((a, .inr (13, rg 81 g4)) :: (q3, .inl (ca 0, 4, .inl (zAr (fun _ => 0)))) :: Y2) A H4 := zHx.swp hZ4
  rw [← hY4] at hZ4
  replace hZ4 : zHx D ca ad lnM Ki.2 L F B ((a, .inr (13, rg 81 g4)) :: Y4) A H4 := hZ4
  clear hZ3 hS3
  refine lv_aload_n hx hb d_16_1_18 rfl (lv_at hl 0 rfl) ?_
  refine lv_iconst (v := iI 4) hx hb d_16_1_19 rfl ?_
  refine zxnewa (atype := .long) hx hb hts (ty := .long) rfl k_1_105 hK 1 rfl (fun _ _ => gu_long) hZ4 hS4 hA (a0 := (4, .inr (.inl (zLr (fun _ => 0))))) (fun _ => rfl) (by decide) (N' := 4) (by decide) (Nat.le_of_ble_eq_true rfl) (Nat.le_of_ble_eq_true rfl) (Nat.le_of_ble_eq_true rfl) d_16_1_20 (fun q5 H5 hZ5 hS5 => ?_)
  replace hZ5 := zHx.rot hZ5
  replace hZ5 : zHx D ca ad lnM Ki.2 L F B ((q5, .inl (ca 1, 4, .inr (.inl (zLr (fun _ => 0))))) :: (a, .inr (13, rg 81 g4)) :: Y4) A H5 := hZ5
  clear hZ4 hS4
  refine W.widen (k := 3) (n := 12) (Nat.le_of_ble_eq_true rfl) (Nat.le_of_ble_eq_true rfl) ?_
  obtain ⟨g6, hg6⟩ : ∃ gz : Nat → Value, gz = va_up g4 10 (.ref q5) := ⟨_, rfl⟩
  refine zxputF hx hb hts inW_13 tyX13 tyX13_ok nmX13 hown hK hZ5 hS5 1 rfl rfl (k := 10) (by decide) k_9_137 rfl hnm rfl rfl rfl d_16_1_22 (fun H6 locs6 hZ6 hS6 => ?_)
  rw [← hg6] at hZ6
  obtain ⟨Y6, hY6⟩ : ∃ Yz : va_W, Yz = (q5, .inl (ca 1, 4, .inr (.inl (zLr (fun _ => 0))))) :: Y4 := ⟨_, rfl⟩
  replace hZ6 : zHx D ca ad lnM Ki.2 L F B ((a, .inr (13, rg 81 g6)) :: (q5, .inl (ca 1, 4, .inr (.inl (zLr (fun _ => 0))))) :: Y4) A H6 := zHx.swp hZ6
  rw [← hY6] at hZ6
  replace hZ6 : zHx D ca ad lnM Ki.2 L F B ((a, .inr (13, rg 81 g6)) :: Y6) A H6 := hZ6
  clear hZ5 hS5
  refine lv_aload_n hx hb d_16_1_25 rfl (lv_at hl 0 rfl) ?_
  refine lv_iconst (v := iI 4) hx hb d_16_1_26 rfl ?_
  refine zxnewa (atype := .int) hx hb hts (ty := .int) rfl k_1_57 hK 0 rfl (fun _ _ => gu_int) hZ6 hS6 hA (a0 := (4, .inl (zAr (fun _ => 0)))) (fun _ => rfl) (by decide) (N' := 4) (by decide) (Nat.le_of_ble_eq_true rfl) (Nat.le_of_ble_eq_true rfl) (Nat.le_of_ble_eq_true rfl) d_16_1_27 (fun q7 H7 hZ7 hS7 => ?_)
  replace hZ7 := zHx.rot hZ7
  replace hZ7 : zHx D ca ad lnM Ki.2 L F B ((q7, .inl (ca 0, 4, .inl (zAr (fun _ => 0)))) :: (a, .inr (13, rg 81 g6)) :: Y6) A H7 := hZ7
  clear hZ6 hS6
  refine W.widen (k := 4) (n := 16) (Nat.le_of_ble_eq_true rfl) (Nat.le_of_ble_eq_true rfl) ?_
  obtain ⟨g8, hg8⟩ : ∃ gz : Nat → Value, gz = va_up g6 11 (.ref q7) := ⟨_, rfl⟩
  refine zxputF hx hb hts inW_13 tyX13 tyX13_ok nmX13 hown hK hZ7 hS7 1 rfl rfl (k := 11) (by decide) k_9_139 rfl hnm rfl rfl rfl d_16_1_29 (fun H8 locs8 hZ8 hS8 => ?_)
  rw [← hg8] at hZ8
  obtain ⟨Y8, hY8⟩ : ∃ Yz : va_W, Yz = (q7, .inl (ca 0, 4, .inl (zAr (fun _ => 0)))) :: Y6 := ⟨_, rfl⟩
  replace hZ8 : zHx D ca ad lnM Ki.2 L F B ((a, .inr (13, rg 81 g8)) :: (q7, .inl (ca 0, 4, .inl (zAr (fun _ => 0)))) :: Y6) A H8 := zHx.swp hZ8
  rw [← hY8] at hZ8
  replace hZ8 : zHx D ca ad lnM Ki.2 L F B ((a, .inr (13, rg 81 g8)) :: Y8) A H8 := hZ8
  clear hZ7 hS7
  refine lv_aload_n hx hb d_16_1_32 rfl (lv_at hl 0 rfl) ?_
  refine lv_iconst (v := iI 4) hx hb d_16_1_33 rfl ?_
  refine zxnewa (atype := .int) hx hb hts (ty := .int) rfl k_1_57 hK 0 rfl (fun _ _ => gu_int) hZ8 hS8 hA (a0 := (4, .inl (zAr (fun _ => 0)))) (fun _ => rfl) (by decide) (N' := 4) (by decide) (Nat.le_of_ble_eq_true rfl) (Nat.le_of_ble_eq_true rfl) (Nat.le_of_ble_eq_true rfl) d_16_1_34 (fun q9 H9 hZ9 hS9 => ?_)
  replace hZ9 := zHx.rot hZ9
  replace hZ9 : zHx D ca ad lnM Ki.2 L F B ((q9, .inl (ca 0, 4, .inl (zAr (fun _ => 0)))) :: (a, .inr (13, rg 81 g8)) :: Y8) A H9 := hZ9
  clear hZ8 hS8
  refine W.widen (k := 5) (n := 20) (Nat.le_of_ble_eq_true rfl) (Nat.le_of_ble_eq_true rfl) ?_
  obtain ⟨g10, hg10⟩ : ∃ gz : Nat → Value, gz = va_up g8 12 (.ref q9) := ⟨_, rfl⟩
  refine zxputF hx hb hts inW_13 tyX13 tyX13_ok nmX13 hown hK hZ9 hS9 1 rfl rfl (k := 12) (by decide) k_9_141 rfl hnm rfl rfl rfl d_16_1_36 (fun H10 locs10 hZ10 hS10 => ?_)
  rw [← hg10] at hZ10
  obtain ⟨Y10, hY10⟩ : ∃ Yz : va_W, Yz = (q9, .inl (ca 0, 4, .inl (zAr (fun _ => 0)))) :: Y8 := ⟨_, rfl⟩
  replace hZ10 : zHx D ca ad lnM Ki.2 L F B ((a, .inr (13, rg 81 g10)) :: (q9, .inl (ca 0, 4, .inl (zAr (fun _ => 0)))) :: Y8) A H10 := zHx.swp hZ10
  rw [← hY10] at hZ10
  replace hZ10 : zHx D ca ad lnM Ki.2 L F B ((a, .inr (13, rg 81 g10)) :: Y10) A H10 := hZ10
  clear hZ9 hS9
  refine lv_aload_n hx hb d_16_1_39 rfl (lv_at hl 0 rfl) ?_
  refine lv_iconst (v := iI 4) hx hb d_16_1_40 rfl ?_
  refine zxnewa (atype := .int) hx hb hts (ty := .int) rfl k_1_57 hK 0 rfl (fun _ _ => gu_int) hZ10 hS10 hA (a0 := (4, .inl (zAr (fun _ => 0)))) (fun _ => rfl) (by decide) (N' := 4) (by decide) (Nat.le_of_ble_eq_true rfl) (Nat.le_of_ble_eq_true rfl) (Nat.le_of_ble_eq_true rfl) d_16_1_41 (fun q11 H11 hZ11 hS11 => ?_)
  replace hZ11 := zHx.rot hZ11
  replace hZ11 : zHx D ca ad lnM Ki.2 L F B ((q11, .inl (ca 0, 4, .inl (zAr (fun _ => 0)))) :: (a, .inr (13, rg 81 g10)) :: Y10) A H11 := hZ11
  clear hZ10 hS10
  refine W.widen (k := 6) (n := 24) (Nat.le_of_ble_eq_true rfl) (Nat.le_of_ble_eq_true rfl) ?_
  obtain ⟨g12, hg12⟩ : ∃ gz : Nat → Value, gz = va_up g10 13 (.ref q11) := ⟨_, rfl⟩
  refine zxputF hx hb hts inW_13 tyX13 tyX13_ok nmX13 hown hK hZ11 hS11 1 rfl rfl (k := 13) (by decide) k_9_143 rfl hnm rfl rfl rfl d_16_1_43 (fun H12 locs12 hZ12 hS12 => ?_)
  rw [← hg12] at hZ12
  obtain ⟨Y12, hY12⟩ : ∃ Yz : va_W, Yz = (q11, .inl (ca 0, 4, .inl (zAr (fun _ => 0)))) :: Y10 := ⟨_, rfl⟩
  replace hZ12 : zHx D ca ad lnM Ki.2 L F B ((a, .inr (13, rg 81 g12)) :: (q11, .inl (ca 0, 4, .inl (zAr (fun _ => 0)))) :: Y10) A H12 := zHx.swp hZ12
  rw [← hY12] at hZ12
  replace hZ12 : zHx D ca ad lnM Ki.2 L F B ((a, .inr (13, rg 81 g12)) :: Y12) A H12 := hZ12
  clear hZ11 hS11
  refine lv_aload_n hx hb d_16_1_46 rfl (lv_at hl 0 rfl) ?_
  refine lv_sipush (v := iI 4000) hx hb d_16_1_47 (by decide) ?_
  refine zxnewa (atype := .long) hx hb hts (ty := .long) rfl k_1_105 hK 1 rfl (fun _ _ => gu_long) hZ12 hS12 hA (a0 := (4000, .inr (.inl (zLr (fun _ => 0))))) (fun _ => rfl) (by decide) (N' := 4000) (by decide) (Nat.le_of_ble_eq_true rfl) (Nat.le_of_ble_eq_true rfl) (Nat.le_of_ble_eq_true rfl) d_16_1_50 (fun q13 H13 hZ13 hS13 => ?_)
  replace hZ13 := zHx.rot hZ13
  replace hZ13 : zHx D ca ad lnM Ki.2 L F B ((q13, .inl (ca 1, 4000, .inr (.inl (zLr (fun _ => 0))))) :: (a, .inr (13, rg 81 g12)) :: Y12) A H13 := hZ13
  clear hZ12 hS12
  refine W.widen (k := 7) (n := 4024) (Nat.le_of_ble_eq_true rfl) (Nat.le_of_ble_eq_true rfl) ?_
  obtain ⟨g14, hg14⟩ : ∃ gz : Nat → Value, gz = va_up g12 14 (.ref q13) := ⟨_, rfl⟩
  refine zxputF hx hb hts inW_13 tyX13 tyX13_ok nmX13 hown hK hZ13 hS13 1 rfl rfl (k := 14) (by decide) k_9_145 rfl hnm rfl rfl rfl d_16_1_52 (fun H14 locs14 hZ14 hS14 => ?_)
  rw [← hg14] at hZ14
  obtain ⟨Y14, hY14⟩ : ∃ Yz : va_W, Yz = (q13, .inl (ca 1, 4000, .inr (.inl (zLr (fun _ => 0))))) :: Y12 := ⟨_, rfl⟩
  replace hZ14 : zHx D ca ad lnM Ki.2 L F B ((a, .inr (13, rg 81 g14)) :: (q13, .inl (ca 1, 4000, .inr (.inl (zLr (fun _ => 0))))) :: Y12) A H14 := zHx.swp hZ14
  rw [← hY14] at hZ14
  replace hZ14 : zHx D ca ad lnM Ki.2 L F B ((a, .inr (13, rg 81 g14)) :: Y14) A H14 := hZ14
  clear hZ13 hS13
  refine lv_aload_n hx hb d_16_1_55 rfl (lv_at hl 0 rfl) ?_
  refine lv_sipush (v := iI 4000) hx hb d_16_1_56 (by decide) ?_
  refine zxnewa (atype := .long) hx hb hts (ty := .long) rfl k_1_105 hK 1 rfl (fun _ _ => gu_long) hZ14 hS14 hA (a0 := (4000, .inr (.inl (zLr (fun _ => 0))))) (fun _ => rfl) (by decide) (N' := 4000) (by decide) (Nat.le_of_ble_eq_true rfl) (Nat.le_of_ble_eq_true rfl) (Nat.le_of_ble_eq_true rfl) d_16_1_59 (fun q15 H15 hZ15 hS15 => ?_)
  replace hZ15 := zHx.rot hZ15
  replace hZ15 : zHx D ca ad lnM Ki.2 L F B ((q15, .inl (ca 1, 4000, .inr (.inl (zLr (fun _ => 0))))) :: (a, .inr (13, rg 81 g14)) :: Y14) A H15 := hZ15
  clear hZ14 hS14
  refine W.widen (k := 8) (n := 8024) (Nat.le_of_ble_eq_true rfl) (Nat.le_of_ble_eq_true rfl) ?_
  obtain ⟨g16, hg16⟩ : ∃ gz : Nat → Value, gz = va_up g14 15 (.ref q15) := ⟨_, rfl⟩
  refine zxputF hx hb hts inW_13 tyX13 tyX13_ok nmX13 hown hK hZ15 hS15 1 rfl rfl (k := 15) (by decide) k_9_147 rfl hnm rfl rfl rfl d_16_1_61 (fun H16 locs16 hZ16 hS16 => ?_)
  rw [← hg16] at hZ16
  obtain ⟨Y16, hY16⟩ : ∃ Yz : va_W, Yz = (q15, .inl (ca 1, 4000, .inr (.inl (zLr (fun _ => 0))))) :: Y14 := ⟨_, rfl⟩
  replace hZ16 : zHx D ca ad lnM Ki.2 L F B ((a, .inr (13, rg 81 g16)) :: (q15, .inl (ca 1, 4000, .inr (.inl (zLr (fun _ => 0))))) :: Y14) A H16 := zHx.swp hZ16
  rw [← hY16] at hZ16
  replace hZ16 : zHx D ca ad lnM Ki.2 L F B ((a, .inr (13, rg 81 g16)) :: Y16) A H16 := hZ16
  clear hZ15 hS15
  refine lv_aload_n hx hb d_16_1_64 rfl (lv_at hl 0 rfl) ?_
  refine lv_sipush (v := iI 4000) hx hb d_16_1_65 (by decide) ?_
  refine zxnewa (atype := .long) hx hb hts (ty := .long) rfl k_1_105 hK 1 rfl (fun _ _ => gu_long) hZ16 hS16 hA (a0 := (4000, .inr (.inl (zLr (fun _ => 0))))) (fun _ => rfl) (by decide) (N' := 4000) (by decide) (Nat.le_of_ble_eq_true rfl) (Nat.le_of_ble_eq_true rfl) (Nat.le_of_ble_eq_true rfl) d_16_1_68 (fun q17 H17 hZ17 hS17 => ?_)
  replace hZ17 := zHx.rot hZ17
  replace hZ17 : zHx D ca ad lnM Ki.2 L F B ((q17, .inl (ca 1, 4000, .inr (.inl (zLr (fun _ => 0))))) :: (a, .inr (13, rg 81 g16)) :: Y16) A H17 := hZ17
  clear hZ16 hS16
  refine W.widen (k := 9) (n := 12024) (Nat.le_of_ble_eq_true rfl) (Nat.le_of_ble_eq_true rfl) ?_
  obtain ⟨g18, hg18⟩ : ∃ gz : Nat → Value, gz = va_up g16 16 (.ref q17) := ⟨_, rfl⟩
  refine zxputF hx hb hts inW_13 tyX13 tyX13_ok nmX13 hown hK hZ17 hS17 1 rfl rfl (k := 16) (by decide) k_9_149 rfl hnm rfl rfl rfl d_16_1_70 (fun H18 locs18 hZ18 hS18 => ?_)
  rw [← hg18] at hZ18
  obtain ⟨Y18, hY18⟩ : ∃ Yz : va_W, Yz = (q17, .inl (ca 1, 4000, .inr (.inl (zLr (fun _ => 0))))) :: Y16 := ⟨_, rfl⟩
  replace hZ18 : zHx D ca ad lnM Ki.2 L F B ((a, .inr (13, rg 81 g18)) :: (q17, .inl (ca 1, 4000, .inr (.inl (zLr (fun _ => 0))))) :: Y16) A H18 := zHx.swp hZ18
  rw [← hY18] at hZ18
  replace hZ18 : zHx D ca ad lnM Ki.2 L F B ((a, .inr (13, rg 81 g18)) :: Y18) A H18 := hZ18
  clear hZ17 hS17
  refine lv_aload_n hx hb d_16_1_73 rfl (lv_at hl 0 rfl) ?_
  refine lv_sipush (v := iI 4000) hx hb d_16_1_74 (by decide) ?_
  refine zxnewa (atype := .long) hx hb hts (ty := .long) rfl k_1_105 hK 1 rfl (fun _ _ => gu_long) hZ18 hS18 hA (a0 := (4000, .inr (.inl (zLr (fun _ => 0))))) (fun _ => rfl) (by decide) (N' := 4000) (by decide) (Nat.le_of_ble_eq_true rfl) (Nat.le_of_ble_eq_true rfl) (Nat.le_of_ble_eq_true rfl) d_16_1_77 (fun q19 H19 hZ19 hS19 => ?_)
  replace hZ19 := zHx.rot hZ19
  replace hZ19 : zHx D ca ad lnM Ki.2 L F B ((q19, .inl (ca 1, 4000, .inr (.inl (zLr (fun _ => 0))))) :: (a, .inr (13, rg 81 g18)) :: Y18) A H19 := hZ19
  clear hZ18 hS18
  refine W.widen (k := 10) (n := 16024) (Nat.le_of_ble_eq_true rfl) (Nat.le_of_ble_eq_true rfl) ?_
  obtain ⟨g20, hg20⟩ : ∃ gz : Nat → Value, gz = va_up g18 17 (.ref q19) := ⟨_, rfl⟩
  refine zxputF hx hb hts inW_13 tyX13 tyX13_ok nmX13 hown hK hZ19 hS19 1 rfl rfl (k := 17) (by decide) k_9_151 rfl hnm rfl rfl rfl d_16_1_79 (fun H20 locs20 hZ20 hS20 => ?_)
  rw [← hg20] at hZ20
  obtain ⟨Y20, hY20⟩ : ∃ Yz : va_W, Yz = (q19, .inl (ca 1, 4000, .inr (.inl (zLr (fun _ => 0))))) :: Y18 := ⟨_, rfl⟩
  replace hZ20 : zHx D ca ad lnM Ki.2 L F B ((a, .inr (13, rg 81 g20)) :: (q19, .inl (ca 1, 4000, .inr (.inl (zLr (fun _ => 0))))) :: Y18) A H20 := zHx.swp hZ20
  rw [← hY20] at hZ20
  replace hZ20 : zHx D ca ad lnM Ki.2 L F B ((a, .inr (13, rg 81 g20)) :: Y20) A H20 := hZ20
  clear hZ19 hS19
  refine lv_aload_n hx hb d_16_1_82 rfl (lv_at hl 0 rfl) ?_
  refine lv_sipush (v := iI 4000) hx hb d_16_1_83 (by decide) ?_
  refine zxnewa (atype := .int) hx hb hts (ty := .int) rfl k_1_57 hK 0 rfl (fun _ _ => gu_int) hZ20 hS20 hA (a0 := (4000, .inl (zAr (fun _ => 0)))) (fun _ => rfl) (by decide) (N' := 4000) (by decide) (Nat.le_of_ble_eq_true rfl) (Nat.le_of_ble_eq_true rfl) (Nat.le_of_ble_eq_true rfl) d_16_1_86 (fun q21 H21 hZ21 hS21 => ?_)
  replace hZ21 := zHx.rot hZ21
  replace hZ21 : zHx D ca ad lnM Ki.2 L F B ((q21, .inl (ca 0, 4000, .inl (zAr (fun _ => 0)))) :: (a, .inr (13, rg 81 g20)) :: Y20) A H21 := hZ21
  clear hZ20 hS20
  refine W.widen (k := 11) (n := 20024) (Nat.le_of_ble_eq_true rfl) (Nat.le_of_ble_eq_true rfl) ?_
  obtain ⟨g22, hg22⟩ : ∃ gz : Nat → Value, gz = va_up g20 18 (.ref q21) := ⟨_, rfl⟩
  refine zxputF hx hb hts inW_13 tyX13 tyX13_ok nmX13 hown hK hZ21 hS21 1 rfl rfl (k := 18) (by decide) k_9_153 rfl hnm rfl rfl rfl d_16_1_88 (fun H22 locs22 hZ22 hS22 => ?_)
  rw [← hg22] at hZ22
  obtain ⟨Y22, hY22⟩ : ∃ Yz : va_W, Yz = (q21, .inl (ca 0, 4000, .inl (zAr (fun _ => 0)))) :: Y20 := ⟨_, rfl⟩
  replace hZ22 : zHx D ca ad lnM Ki.2 L F B ((a, .inr (13, rg 81 g22)) :: (q21, .inl (ca 0, 4000, .inl (zAr (fun _ => 0)))) :: Y20) A H22 := zHx.swp hZ22
  rw [← hY22] at hZ22
  replace hZ22 : zHx D ca ad lnM Ki.2 L F B ((a, .inr (13, rg 81 g22)) :: Y22) A H22 := hZ22
  clear hZ21 hS21
  refine lv_aload_n hx hb d_16_1_91 rfl (lv_at hl 0 rfl) ?_
  refine lv_sipush (v := iI 4000) hx hb d_16_1_92 (by decide) ?_
  refine zxnewa (atype := .int) hx hb hts (ty := .int) rfl k_1_57 hK 0 rfl (fun _ _ => gu_int) hZ22 hS22 hA (a0 := (4000, .inl (zAr (fun _ => 0)))) (fun _ => rfl) (by decide) (N' := 4000) (by decide) (Nat.le_of_ble_eq_true rfl) (Nat.le_of_ble_eq_true rfl) (Nat.le_of_ble_eq_true rfl) d_16_1_95 (fun q23 H23 hZ23 hS23 => ?_)
  replace hZ23 := zHx.rot hZ23
  replace hZ23 : zHx D ca ad lnM Ki.2 L F B ((q23, .inl (ca 0, 4000, .inl (zAr (fun _ => 0)))) :: (a, .inr (13, rg 81 g22)) :: Y22) A H23 := hZ23
  clear hZ22 hS22
  refine W.widen (k := 12) (n := 24024) (Nat.le_of_ble_eq_true rfl) (Nat.le_of_ble_eq_true rfl) ?_
  obtain ⟨g24, hg24⟩ : ∃ gz : Nat → Value, gz = va_up g22 19 (.ref q23) := ⟨_, rfl⟩
  refine zxputF hx hb hts inW_13 tyX13 tyX13_ok nmX13 hown hK hZ23 hS23 1 rfl rfl (k := 19) (by decide) k_9_155 rfl hnm rfl rfl rfl d_16_1_97 (fun H24 locs24 hZ24 hS24 => ?_)
  rw [← hg24] at hZ24
  obtain ⟨Y24, hY24⟩ : ∃ Yz : va_W, Yz = (q23, .inl (ca 0, 4000, .inl (zAr (fun _ => 0)))) :: Y22 := ⟨_, rfl⟩
  replace hZ24 : zHx D ca ad lnM Ki.2 L F B ((a, .inr (13, rg 81 g24)) :: (q23, .inl (ca 0, 4000, .inl (zAr (fun _ => 0)))) :: Y22) A H24 := zHx.swp hZ24
  rw [← hY24] at hZ24
  replace hZ24 : zHx D ca ad lnM Ki.2 L F B ((a, .inr (13, rg 81 g24)) :: Y24) A H24 := hZ24
  clear hZ23 hS23
  refine lv_aload_n hx hb d_16_1_100 rfl (lv_at hl 0 rfl) ?_
  refine lv_sipush (v := iI 4000) hx hb d_16_1_101 (by decide) ?_
  refine zxnewa (atype := .int) hx hb hts (ty := .int) rfl k_1_57 hK 0 rfl (fun _ _ => gu_int) hZ24 hS24 hA (a0 := (4000, .inl (zAr (fun _ => 0)))) (fun _ => rfl) (by decide) (N' := 4000) (by decide) (Nat.le_of_ble_eq_true rfl) (Nat.le_of_ble_eq_true rfl) (Nat.le_of_ble_eq_true rfl) d_16_1_104 (fun q25 H25 hZ25 hS25 => ?_)
  replace hZ25 := zHx.rot hZ25
  replace hZ25 : zHx D ca ad lnM Ki.2 L F B ((q25, .inl (ca 0, 4000, .inl (zAr (fun _ => 0)))) :: (a, .inr (13, rg 81 g24)) :: Y24) A H25 := hZ25
  clear hZ24 hS24
  refine W.widen (k := 13) (n := 28024) (Nat.le_of_ble_eq_true rfl) (Nat.le_of_ble_eq_true rfl) ?_
  obtain ⟨g26, hg26⟩ : ∃ gz : Nat → Value, gz = va_up g24 20 (.ref q25) := ⟨_, rfl⟩
  refine zxputF hx hb hts inW_13 tyX13 tyX13_ok nmX13 hown hK hZ25 hS25 1 rfl rfl (k := 20) (by decide) k_9_157 rfl hnm rfl rfl rfl d_16_1_106 (fun H26 locs26 hZ26 hS26 => ?_)
  rw [← hg26] at hZ26
  obtain ⟨Y26, hY26⟩ : ∃ Yz : va_W, Yz = (q25, .inl (ca 0, 4000, .inl (zAr (fun _ => 0)))) :: Y24 := ⟨_, rfl⟩
  replace hZ26 : zHx D ca ad lnM Ki.2 L F B ((a, .inr (13, rg 81 g26)) :: (q25, .inl (ca 0, 4000, .inl (zAr (fun _ => 0)))) :: Y24) A H26 := zHx.swp hZ26
  rw [← hY26] at hZ26
  replace hZ26 : zHx D ca ad lnM Ki.2 L F B ((a, .inr (13, rg 81 g26)) :: Y26) A H26 := hZ26
  clear hZ25 hS25
  refine lv_aload_n hx hb d_16_1_109 rfl (lv_at hl 0 rfl) ?_
  refine lv_sipush (v := iI 4000) hx hb d_16_1_110 (by decide) ?_
  refine zxnewa (atype := .int) hx hb hts (ty := .int) rfl k_1_57 hK 0 rfl (fun _ _ => gu_int) hZ26 hS26 hA (a0 := (4000, .inl (zAr (fun _ => 0)))) (fun _ => rfl) (by decide) (N' := 4000) (by decide) (Nat.le_of_ble_eq_true rfl) (Nat.le_of_ble_eq_true rfl) (Nat.le_of_ble_eq_true rfl) d_16_1_113 (fun q27 H27 hZ27 hS27 => ?_)
  replace hZ27 := zHx.rot hZ27
  replace hZ27 : zHx D ca ad lnM Ki.2 L F B ((q27, .inl (ca 0, 4000, .inl (zAr (fun _ => 0)))) :: (a, .inr (13, rg 81 g26)) :: Y26) A H27 := hZ27
  clear hZ26 hS26
  refine W.widen (k := 14) (n := 32024) (Nat.le_of_ble_eq_true rfl) (Nat.le_of_ble_eq_true rfl) ?_
  obtain ⟨g28, hg28⟩ : ∃ gz : Nat → Value, gz = va_up g26 21 (.ref q27) := ⟨_, rfl⟩
  refine zxputF hx hb hts inW_13 tyX13 tyX13_ok nmX13 hown hK hZ27 hS27 1 rfl rfl (k := 21) (by decide) k_9_159 rfl hnm rfl rfl rfl d_16_1_115 (fun H28 locs28 hZ28 hS28 => ?_)
  rw [← hg28] at hZ28
  obtain ⟨Y28, hY28⟩ : ∃ Yz : va_W, Yz = (q27, .inl (ca 0, 4000, .inl (zAr (fun _ => 0)))) :: Y26 := ⟨_, rfl⟩
  replace hZ28 : zHx D ca ad lnM Ki.2 L F B ((a, .inr (13, rg 81 g28)) :: (q27, .inl (ca 0, 4000, .inl (zAr (fun _ => 0)))) :: Y26) A H28 := zHx.swp hZ28
  rw [← hY28] at hZ28
  replace hZ28 : zHx D ca ad lnM Ki.2 L F B ((a, .inr (13, rg 81 g28)) :: Y28) A H28 := hZ28
  clear hZ27 hS27
  refine lv_aload_n hx hb d_16_1_118 rfl (lv_at hl 0 rfl) ?_
  refine lv_sipush (v := iI 4000) hx hb d_16_1_119 (by decide) ?_
  refine zxnewa (atype := .int) hx hb hts (ty := .int) rfl k_1_57 hK 0 rfl (fun _ _ => gu_int) hZ28 hS28 hA (a0 := (4000, .inl (zAr (fun _ => 0)))) (fun _ => rfl) (by decide) (N' := 4000) (by decide) (Nat.le_of_ble_eq_true rfl) (Nat.le_of_ble_eq_true rfl) (Nat.le_of_ble_eq_true rfl) d_16_1_122 (fun q29 H29 hZ29 hS29 => ?_)
  replace hZ29 := zHx.rot hZ29
  replace hZ29 : zHx D ca ad lnM Ki.2 L F B ((q29, .inl (ca 0, 4000, .inl (zAr (fun _ => 0)))) :: (a, .inr (13, rg 81 g28)) :: Y28) A H29 := hZ29
  clear hZ28 hS28
  refine W.widen (k := 15) (n := 36024) (Nat.le_of_ble_eq_true rfl) (Nat.le_of_ble_eq_true rfl) ?_
  obtain ⟨g30, hg30⟩ : ∃ gz : Nat → Value, gz = va_up g28 22 (.ref q29) := ⟨_, rfl⟩
  refine zxputF hx hb hts inW_13 tyX13 tyX13_ok nmX13 hown hK hZ29 hS29 1 rfl rfl (k := 22) (by decide) k_9_161 rfl hnm rfl rfl rfl d_16_1_124 (fun H30 locs30 hZ30 hS30 => ?_)
  rw [← hg30] at hZ30
  obtain ⟨Y30, hY30⟩ : ∃ Yz : va_W, Yz = (q29, .inl (ca 0, 4000, .inl (zAr (fun _ => 0)))) :: Y28 := ⟨_, rfl⟩
  replace hZ30 : zHx D ca ad lnM Ki.2 L F B ((a, .inr (13, rg 81 g30)) :: (q29, .inl (ca 0, 4000, .inl (zAr (fun _ => 0)))) :: Y28) A H30 := zHx.swp hZ30
  rw [← hY30] at hZ30
  replace hZ30 : zHx D ca ad lnM Ki.2 L F B ((a, .inr (13, rg 81 g30)) :: Y30) A H30 := hZ30
  clear hZ29 hS29
  refine lv_aload_n hx hb d_16_1_127 rfl (lv_at hl 0 rfl) ?_
  refine lv_sipush (v := iI 4000) hx hb d_16_1_128 (by decide) ?_
  refine zxnewa (atype := .int) hx hb hts (ty := .int) rfl k_1_57 hK 0 rfl (fun _ _ => gu_int) hZ30 hS30 hA (a0 := (4000, .inl (zAr (fun _ => 0)))) (fun _ => rfl) (by decide) (N' := 4000) (by decide) (Nat.le_of_ble_eq_true rfl) (Nat.le_of_ble_eq_true rfl) (Nat.le_of_ble_eq_true rfl) d_16_1_131 (fun q31 H31 hZ31 hS31 => ?_)
  replace hZ31 := zHx.rot hZ31
  replace hZ31 : zHx D ca ad lnM Ki.2 L F B ((q31, .inl (ca 0, 4000, .inl (zAr (fun _ => 0)))) :: (a, .inr (13, rg 81 g30)) :: Y30) A H31 := hZ31
  clear hZ30 hS30
  refine W.widen (k := 16) (n := 40024) (Nat.le_of_ble_eq_true rfl) (Nat.le_of_ble_eq_true rfl) ?_
  obtain ⟨g33, hg33⟩ : ∃ gz : Nat → Value, gz = va_up g30 23 (.ref q31) := ⟨_, rfl⟩
  refine zxputF hx hb hts inW_13 tyX13 tyX13_ok nmX13 hown hK hZ31 hS31 1 rfl rfl (k := 23) (by decide) k_9_163 rfl hnm rfl rfl rfl d_16_1_133 (fun H33 locs33 hZ33 hS33 => ?_)
  rw [← hg33] at hZ33
  obtain ⟨Y33, hY33⟩ : ∃ Yz : va_W, Yz = (q31, .inl (ca 0, 4000, .inl (zAr (fun _ => 0)))) :: Y30 := ⟨_, rfl⟩
  replace hZ33 : zHx D ca ad lnM Ki.2 L F B ((a, .inr (13, rg 81 g33)) :: (q31, .inl (ca 0, 4000, .inl (zAr (fun _ => 0)))) :: Y30) A H33 := zHx.swp hZ33
  rw [← hY33] at hZ33
  replace hZ33 : zHx D ca ad lnM Ki.2 L F B ((a, .inr (13, rg 81 g33)) :: Y33) A H33 := hZ33
  clear hZ31 hS31
  refine lv_aload_n hx hb d_16_1_136 rfl (lv_at hl 0 rfl) ?_
  refine lv_sipush (v := iI 4000) hx hb d_16_1_137 (by decide) ?_
  refine zxnewa (atype := .int) hx hb hts (ty := .int) rfl k_1_57 hK 0 rfl (fun _ _ => gu_int) hZ33 hS33 hA (a0 := (4000, .inl (zAr (fun _ => 0)))) (fun _ => rfl) (by decide) (N' := 4000) (by decide) (Nat.le_of_ble_eq_true rfl) (Nat.le_of_ble_eq_true rfl) (Nat.le_of_ble_eq_true rfl) d_16_1_140 (fun q34 H34 hZ34 hS34 => ?_)
  replace hZ34 := zHx.rot hZ34
  replace hZ34 : zHx D ca ad lnM Ki.2 L F B ((q34, .inl (ca 0, 4000, .inl (zAr (fun _ => 0)))) :: (a, .inr (13, rg 81 g33)) :: Y33) A H34 := hZ34
  clear hZ33 hS33
  refine W.widen (k := 17) (n := 44024) (Nat.le_of_ble_eq_true rfl) (Nat.le_of_ble_eq_true rfl) ?_
  obtain ⟨g35, hg35⟩ : ∃ gz : Nat → Value, gz = va_up g33 24 (.ref q34) := ⟨_, rfl⟩
  refine zxputF hx hb hts inW_13 tyX13 tyX13_ok nmX13 hown hK hZ34 hS34 1 rfl rfl (k := 24) (by decide) k_9_165 rfl hnm rfl rfl rfl d_16_1_142 (fun H35 locs35 hZ35 hS35 => ?_)
  rw [← hg35] at hZ35
  obtain ⟨Y35, hY35⟩ : ∃ Yz : va_W, Yz = (q34, .inl (ca 0, 4000, .inl (zAr (fun _ => 0)))) :: Y33 := ⟨_, rfl⟩
  replace hZ35 : zHx D ca ad lnM Ki.2 L F B ((a, .inr (13, rg 81 g35)) :: (q34, .inl (ca 0, 4000, .inl (zAr (fun _ => 0)))) :: Y33) A H35 := zHx.swp hZ35
  rw [← hY35] at hZ35
  replace hZ35 : zHx D ca ad lnM Ki.2 L F B ((a, .inr (13, rg 81 g35)) :: Y35) A H35 := hZ35
  clear hZ34 hS34
  refine lv_aload_n hx hb d_16_1_145 rfl (lv_at hl 0 rfl) ?_
  refine lv_sipush (v := iI 4000) hx hb d_16_1_146 (by decide) ?_
  refine zxnewa (atype := .int) hx hb hts (ty := .int) rfl k_1_57 hK 0 rfl (fun _ _ => gu_int) hZ35 hS35 hA (a0 := (4000, .inl (zAr (fun _ => 0)))) (fun _ => rfl) (by decide) (N' := 4000) (by decide) (Nat.le_of_ble_eq_true rfl) (Nat.le_of_ble_eq_true rfl) (Nat.le_of_ble_eq_true rfl) d_16_1_149 (fun q36 H36 hZ36 hS36 => ?_)
  replace hZ36 := zHx.rot hZ36
  replace hZ36 : zHx D ca ad lnM Ki.2 L F B ((q36, .inl (ca 0, 4000, .inl (zAr (fun _ => 0)))) :: (a, .inr (13, rg 81 g35)) :: Y35) A H36 := hZ36
  clear hZ35 hS35
  refine W.widen (k := 18) (n := 48024) (Nat.le_of_ble_eq_true rfl) (Nat.le_of_ble_eq_true rfl) ?_
  obtain ⟨g37, hg37⟩ : ∃ gz : Nat → Value, gz = va_up g35 25 (.ref q36) := ⟨_, rfl⟩
  refine zxputF hx hb hts inW_13 tyX13 tyX13_ok nmX13 hown hK hZ36 hS36 1 rfl rfl (k := 25) (by decide) k_9_167 rfl hnm rfl rfl rfl d_16_1_151 (fun H37 locs37 hZ37 hS37 => ?_)
  rw [← hg37] at hZ37
  obtain ⟨Y37, hY37⟩ : ∃ Yz : va_W, Yz = (q36, .inl (ca 0, 4000, .inl (zAr (fun _ => 0)))) :: Y35 := ⟨_, rfl⟩
  replace hZ37 : zHx D ca ad lnM Ki.2 L F B ((a, .inr (13, rg 81 g37)) :: (q36, .inl (ca 0, 4000, .inl (zAr (fun _ => 0)))) :: Y35) A H37 := zHx.swp hZ37
  rw [← hY37] at hZ37
  replace hZ37 : zHx D ca ad lnM Ki.2 L F B ((a, .inr (13, rg 81 g37)) :: Y37) A H37 := hZ37
  clear hZ36 hS36
  refine lv_aload_n hx hb d_16_1_154 rfl (lv_at hl 0 rfl) ?_
  refine lv_sipush (v := iI 4000) hx hb d_16_1_155 (by decide) ?_
  refine zxnewa (atype := .int) hx hb hts (ty := .int) rfl k_1_57 hK 0 rfl (fun _ _ => gu_int) hZ37 hS37 hA (a0 := (4000, .inl (zAr (fun _ => 0)))) (fun _ => rfl) (by decide) (N' := 4000) (by decide) (Nat.le_of_ble_eq_true rfl) (Nat.le_of_ble_eq_true rfl) (Nat.le_of_ble_eq_true rfl) d_16_1_158 (fun q38 H38 hZ38 hS38 => ?_)
  replace hZ38 := zHx.rot hZ38
  replace hZ38 : zHx D ca ad lnM Ki.2 L F B ((q38, .inl (ca 0, 4000, .inl (zAr (fun _ => 0)))) :: (a, .inr (13, rg 81 g37)) :: Y37) A H38 := hZ38
  clear hZ37 hS37
  refine W.widen (k := 19) (n := 52024) (Nat.le_of_ble_eq_true rfl) (Nat.le_of_ble_eq_true rfl) ?_
  obtain ⟨g39, hg39⟩ : ∃ gz : Nat → Value, gz = va_up g37 26 (.ref q38) := ⟨_, rfl⟩
  refine zxputF hx hb hts inW_13 tyX13 tyX13_ok nmX13 hown hK hZ38 hS38 1 rfl rfl (k := 26) (by decide) k_9_169 rfl hnm rfl rfl rfl d_16_1_160 (fun H39 locs39 hZ39 hS39 => ?_)
  rw [← hg39] at hZ39
  obtain ⟨Y39, hY39⟩ : ∃ Yz : va_W, Yz = (q38, .inl (ca 0, 4000, .inl (zAr (fun _ => 0)))) :: Y37 := ⟨_, rfl⟩
  replace hZ39 : zHx D ca ad lnM Ki.2 L F B ((a, .inr (13, rg 81 g39)) :: (q38, .inl (ca 0, 4000, .inl (zAr (fun _ => 0)))) :: Y37) A H39 := zHx.swp hZ39
  rw [← hY39] at hZ39
  replace hZ39 : zHx D ca ad lnM Ki.2 L F B ((a, .inr (13, rg 81 g39)) :: Y39) A H39 := hZ39
  clear hZ38 hS38
  refine lv_aload_n hx hb d_16_1_163 rfl (lv_at hl 0 rfl) ?_
  refine lv_sipush (v := iI 4000) hx hb d_16_1_164 (by decide) ?_
  refine zxnewa (atype := .boolean) hx hb hts (ty := .boolean) rfl k_2_126 hK 3 rfl (fun _ _ => gu_bool) hZ39 hS39 hA (a0 := (4000, .inl (zAr (fun _ => 0)))) (fun _ => rfl) (by decide) (N' := 4000) (by decide) (Nat.le_of_ble_eq_true rfl) (Nat.le_of_ble_eq_true rfl) (Nat.le_of_ble_eq_true rfl) d_16_1_167 (fun q40 H40 hZ40 hS40 => ?_)
  replace hZ40 := zHx.rot hZ40
  replace hZ40 : zHx D ca ad lnM Ki.2 L F B ((q40, .inl (ca 3, 4000, .inl (zAr (fun _ => 0)))) :: (a, .inr (13, rg 81 g39)) :: Y39) A H40 := hZ40
  clear hZ39 hS39
  refine W.widen (k := 20) (n := 56024) (Nat.le_of_ble_eq_true rfl) (Nat.le_of_ble_eq_true rfl) ?_
  obtain ⟨g41, hg41⟩ : ∃ gz : Nat → Value, gz = va_up g39 27 (.ref q40) := ⟨_, rfl⟩
  refine zxputF hx hb hts inW_13 tyX13 tyX13_ok nmX13 hown hK hZ40 hS40 1 rfl rfl (k := 27) (by decide) k_9_171 rfl hnm rfl rfl rfl d_16_1_169 (fun H41 locs41 hZ41 hS41 => ?_)
  rw [← hg41] at hZ41
  obtain ⟨Y41, hY41⟩ : ∃ Yz : va_W, Yz = (q40, .inl (ca 3, 4000, .inl (zAr (fun _ => 0)))) :: Y39 := ⟨_, rfl⟩
  replace hZ41 : zHx D ca ad lnM Ki.2 L F B ((a, .inr (13, rg 81 g41)) :: (q40, .inl (ca 3, 4000, .inl (zAr (fun _ => 0)))) :: Y39) A H41 := zHx.swp hZ41
  rw [← hY41] at hZ41
  replace hZ41 : zHx D ca ad lnM Ki.2 L F B ((a, .inr (13, rg 81 g41)) :: Y41) A H41 := hZ41
  clear hZ40 hS40
  refine lv_aload_n hx hb d_16_1_172 rfl (lv_at hl 0 rfl) ?_
  refine lv_sipush (v := iI 24000) hx hb d_16_1_173 (by decide) ?_
  refine zxnewa (atype := .int) hx hb hts (ty := .int) rfl k_1_57 hK 0 rfl (fun _ _ => gu_int) hZ41 hS41 hA (a0 := (24000, .inl (zAr (fun _ => 0)))) (fun _ => rfl) (by decide) (N' := 24000) (by decide) (Nat.le_of_ble_eq_true rfl) (Nat.le_of_ble_eq_true rfl) (Nat.le_of_ble_eq_true rfl) d_16_1_176 (fun q42 H42 hZ42 hS42 => ?_)
  replace hZ42 := zHx.rot hZ42
  replace hZ42 : zHx D ca ad lnM Ki.2 L F B ((q42, .inl (ca 0, 24000, .inl (zAr (fun _ => 0)))) :: (a, .inr (13, rg 81 g41)) :: Y41) A H42 := hZ42
  clear hZ41 hS41
  refine W.widen (k := 21) (n := 80024) (Nat.le_of_ble_eq_true rfl) (Nat.le_of_ble_eq_true rfl) ?_
  obtain ⟨g43, hg43⟩ : ∃ gz : Nat → Value, gz = va_up g41 28 (.ref q42) := ⟨_, rfl⟩
  refine zxputF hx hb hts inW_13 tyX13 tyX13_ok nmX13 hown hK hZ42 hS42 1 rfl rfl (k := 28) (by decide) k_9_173 rfl hnm rfl rfl rfl d_16_1_178 (fun H43 locs43 hZ43 hS43 => ?_)
  rw [← hg43] at hZ43
  obtain ⟨Y43, hY43⟩ : ∃ Yz : va_W, Yz = (q42, .inl (ca 0, 24000, .inl (zAr (fun _ => 0)))) :: Y41 := ⟨_, rfl⟩
  replace hZ43 : zHx D ca ad lnM Ki.2 L F B ((a, .inr (13, rg 81 g43)) :: (q42, .inl (ca 0, 24000, .inl (zAr (fun _ => 0)))) :: Y41) A H43 := zHx.swp hZ43
  rw [← hY43] at hZ43
  replace hZ43 : zHx D ca ad lnM Ki.2 L F B ((a, .inr (13, rg 81 g43)) :: Y43) A H43 := hZ43
  clear hZ42 hS42
  refine lv_aload_n hx hb d_16_1_181 rfl (lv_at hl 0 rfl) ?_
  refine lv_sipush (v := iI 24000) hx hb d_16_1_182 (by decide) ?_
  refine zxnewa (atype := .int) hx hb hts (ty := .int) rfl k_1_57 hK 0 rfl (fun _ _ => gu_int) hZ43 hS43 hA (a0 := (24000, .inl (zAr (fun _ => 0)))) (fun _ => rfl) (by decide) (N' := 24000) (by decide) (Nat.le_of_ble_eq_true rfl) (Nat.le_of_ble_eq_true rfl) (Nat.le_of_ble_eq_true rfl) d_16_1_185 (fun q44 H44 hZ44 hS44 => ?_)
  replace hZ44 := zHx.rot hZ44
  replace hZ44 : zHx D ca ad lnM Ki.2 L F B ((q44, .inl (ca 0, 24000, .inl (zAr (fun _ => 0)))) :: (a, .inr (13, rg 81 g43)) :: Y43) A H44 := hZ44
  clear hZ43 hS43
  refine W.widen (k := 22) (n := 104024) (Nat.le_of_ble_eq_true rfl) (Nat.le_of_ble_eq_true rfl) ?_
  obtain ⟨g45, hg45⟩ : ∃ gz : Nat → Value, gz = va_up g43 29 (.ref q44) := ⟨_, rfl⟩
  refine zxputF hx hb hts inW_13 tyX13 tyX13_ok nmX13 hown hK hZ44 hS44 1 rfl rfl (k := 29) (by decide) k_9_175 rfl hnm rfl rfl rfl d_16_1_187 (fun H45 locs45 hZ45 hS45 => ?_)
  rw [← hg45] at hZ45
  obtain ⟨Y45, hY45⟩ : ∃ Yz : va_W, Yz = (q44, .inl (ca 0, 24000, .inl (zAr (fun _ => 0)))) :: Y43 := ⟨_, rfl⟩
  replace hZ45 : zHx D ca ad lnM Ki.2 L F B ((a, .inr (13, rg 81 g45)) :: (q44, .inl (ca 0, 24000, .inl (zAr (fun _ => 0)))) :: Y43) A H45 := zHx.swp hZ45
  rw [← hY45] at hZ45
  replace hZ45 : zHx D ca ad lnM Ki.2 L F B ((a, .inr (13, rg 81 g45)) :: Y45) A H45 := hZ45
  clear hZ44 hS44
  refine lv_aload_n hx hb d_16_1_190 rfl (lv_at hl 0 rfl) ?_
  refine lv_sipush (v := iI 3200) hx hb d_16_1_191 (by decide) ?_
  refine zxnewa (atype := .int) hx hb hts (ty := .int) rfl k_1_57 hK 0 rfl (fun _ _ => gu_int) hZ45 hS45 hA (a0 := (3200, .inl (zAr (fun _ => 0)))) (fun _ => rfl) (by decide) (N' := 3200) (by decide) (Nat.le_of_ble_eq_true rfl) (Nat.le_of_ble_eq_true rfl) (Nat.le_of_ble_eq_true rfl) d_16_1_194 (fun q46 H46 hZ46 hS46 => ?_)
  replace hZ46 := zHx.rot hZ46
  replace hZ46 : zHx D ca ad lnM Ki.2 L F B ((q46, .inl (ca 0, 3200, .inl (zAr (fun _ => 0)))) :: (a, .inr (13, rg 81 g45)) :: Y45) A H46 := hZ46
  clear hZ45 hS45
  refine W.widen (k := 23) (n := 107224) (Nat.le_of_ble_eq_true rfl) (Nat.le_of_ble_eq_true rfl) ?_
  obtain ⟨g47, hg47⟩ : ∃ gz : Nat → Value, gz = va_up g45 30 (.ref q46) := ⟨_, rfl⟩
  refine zxputF hx hb hts inW_13 tyX13 tyX13_ok nmX13 hown hK hZ46 hS46 1 rfl rfl (k := 30) (by decide) k_9_177 rfl hnm rfl rfl rfl d_16_1_196 (fun H47 locs47 hZ47 hS47 => ?_)
  rw [← hg47] at hZ47
  obtain ⟨Y47, hY47⟩ : ∃ Yz : va_W, Yz = (q46, .inl (ca 0, 3200, .inl (zAr (fun _ => 0)))) :: Y45 := ⟨_, rfl⟩
  replace hZ47 : zHx D ca ad lnM Ki.2 L F B ((a, .inr (13, rg 81 g47)) :: (q46, .inl (ca 0, 3200, .inl (zAr (fun _ => 0)))) :: Y45) A H47 := zHx.swp hZ47
  rw [← hY47] at hZ47
  replace hZ47 : zHx D ca ad lnM Ki.2 L F B ((a, .inr (13, rg 81 g47)) :: Y47) A H47 := hZ47
  clear hZ46 hS46
  refine lv_aload_n hx hb d_16_1_199 rfl (lv_at hl 0 rfl) ?_
  refine lv_sipush (v := iI 3200) hx hb d_16_1_200 (by decide) ?_
  refine zxnewa (atype := .int) hx hb hts (ty := .int) rfl k_1_57 hK 0 rfl (fun _ _ => gu_int) hZ47 hS47 hA (a0 := (3200, .inl (zAr (fun _ => 0)))) (fun _ => rfl) (by decide) (N' := 3200) (by decide) (Nat.le_of_ble_eq_true rfl) (Nat.le_of_ble_eq_true rfl) (Nat.le_of_ble_eq_true rfl) d_16_1_203 (fun q48 H48 hZ48 hS48 => ?_)
  replace hZ48 := zHx.rot hZ48
  replace hZ48 : zHx D ca ad lnM Ki.2 L F B ((q48, .inl (ca 0, 3200, .inl (zAr (fun _ => 0)))) :: (a, .inr (13, rg 81 g47)) :: Y47) A H48 := hZ48
  clear hZ47 hS47
  refine W.widen (k := 24) (n := 110424) (Nat.le_of_ble_eq_true rfl) (Nat.le_of_ble_eq_true rfl) ?_
  obtain ⟨g49, hg49⟩ : ∃ gz : Nat → Value, gz = va_up g47 31 (.ref q48) := ⟨_, rfl⟩
  refine zxputF hx hb hts inW_13 tyX13 tyX13_ok nmX13 hown hK hZ48 hS48 1 rfl rfl (k := 31) (by decide) k_9_179 rfl hnm rfl rfl rfl d_16_1_205 (fun H49 locs49 hZ49 hS49 => ?_)
  rw [← hg49] at hZ49
  obtain ⟨Y49, hY49⟩ : ∃ Yz : va_W, Yz = (q48, .inl (ca 0, 3200, .inl (zAr (fun _ => 0)))) :: Y47 := ⟨_, rfl⟩
  replace hZ49 : zHx D ca ad lnM Ki.2 L F B ((a, .inr (13, rg 81 g49)) :: (q48, .inl (ca 0, 3200, .inl (zAr (fun _ => 0)))) :: Y47) A H49 := zHx.swp hZ49
  rw [← hY49] at hZ49
  replace hZ49 : zHx D ca ad lnM Ki.2 L F B ((a, .inr (13, rg 81 g49)) :: Y49) A H49 := hZ49
  clear hZ48 hS48
  refine lv_aload_n hx hb d_16_1_208 rfl (lv_at hl 0 rfl) ?_
  refine lv_sipush (v := iI 3200) hx hb d_16_1_209 (by decide) ?_
  refine zxnewa (atype := .long) hx hb hts (ty := .long) rfl k_1_105 hK 1 rfl (fun _ _ => gu_long) hZ49 hS49 hA (a0 := (3200, .inr (.inl (zLr (fun _ => 0))))) (fun _ => rfl) (by decide) (N' := 3200) (by decide) (Nat.le_of_ble_eq_true rfl) (Nat.le_of_ble_eq_true rfl) (Nat.le_of_ble_eq_true rfl) d_16_1_212 (fun q50 H50 hZ50 hS50 => ?_)
  replace hZ50 := zHx.rot hZ50
  replace hZ50 : zHx D ca ad lnM Ki.2 L F B ((q50, .inl (ca 1, 3200, .inr (.inl (zLr (fun _ => 0))))) :: (a, .inr (13, rg 81 g49)) :: Y49) A H50 := hZ50
  clear hZ49 hS49
  refine W.widen (k := 25) (n := 113624) (Nat.le_of_ble_eq_true rfl) (Nat.le_of_ble_eq_true rfl) ?_
  obtain ⟨g51, hg51⟩ : ∃ gz : Nat → Value, gz = va_up g49 32 (.ref q50) := ⟨_, rfl⟩
  refine zxputF hx hb hts inW_13 tyX13 tyX13_ok nmX13 hown hK hZ50 hS50 1 rfl rfl (k := 32) (by decide) k_9_181 rfl hnm rfl rfl rfl d_16_1_214 (fun H51 locs51 hZ51 hS51 => ?_)
  rw [← hg51] at hZ51
  obtain ⟨Y51, hY51⟩ : ∃ Yz : va_W, Yz = (q50, .inl (ca 1, 3200, .inr (.inl (zLr (fun _ => 0))))) :: Y49 := ⟨_, rfl⟩
  replace hZ51 : zHx D ca ad lnM Ki.2 L F B ((a, .inr (13, rg 81 g51)) :: (q50, .inl (ca 1, 3200, .inr (.inl (zLr (fun _ => 0))))) :: Y49) A H51 := zHx.swp hZ51
  rw [← hY51] at hZ51
  replace hZ51 : zHx D ca ad lnM Ki.2 L F B ((a, .inr (13, rg 81 g51)) :: Y51) A H51 := hZ51
  clear hZ50 hS50
  refine lv_aload_n hx hb d_16_1_217 rfl (lv_at hl 0 rfl) ?_
  refine lv_sipush (v := iI 3200) hx hb d_16_1_218 (by decide) ?_
  refine zxnewa (atype := .long) hx hb hts (ty := .long) rfl k_1_105 hK 1 rfl (fun _ _ => gu_long) hZ51 hS51 hA (a0 := (3200, .inr (.inl (zLr (fun _ => 0))))) (fun _ => rfl) (by decide) (N' := 3200) (by decide) (Nat.le_of_ble_eq_true rfl) (Nat.le_of_ble_eq_true rfl) (Nat.le_of_ble_eq_true rfl) d_16_1_221 (fun q52 H52 hZ52 hS52 => ?_)
  replace hZ52 := zHx.rot hZ52
  replace hZ52 : zHx D ca ad lnM Ki.2 L F B ((q52, .inl (ca 1, 3200, .inr (.inl (zLr (fun _ => 0))))) :: (a, .inr (13, rg 81 g51)) :: Y51) A H52 := hZ52
  clear hZ51 hS51
  refine W.widen (k := 26) (n := 116824) (Nat.le_of_ble_eq_true rfl) (Nat.le_of_ble_eq_true rfl) ?_
  obtain ⟨g53, hg53⟩ : ∃ gz : Nat → Value, gz = va_up g51 33 (.ref q52) := ⟨_, rfl⟩
  refine zxputF hx hb hts inW_13 tyX13 tyX13_ok nmX13 hown hK hZ52 hS52 1 rfl rfl (k := 33) (by decide) k_9_183 rfl hnm rfl rfl rfl d_16_1_223 (fun H53 locs53 hZ53 hS53 => ?_)
  rw [← hg53] at hZ53
  obtain ⟨Y53, hY53⟩ : ∃ Yz : va_W, Yz = (q52, .inl (ca 1, 3200, .inr (.inl (zLr (fun _ => 0))))) :: Y51 := ⟨_, rfl⟩
  replace hZ53 : zHx D ca ad lnM Ki.2 L F B ((a, .inr (13, rg 81 g53)) :: (q52, .inl (ca 1, 3200, .inr (.inl (zLr (fun _ => 0))))) :: Y51) A H53 := zHx.swp hZ53
  rw [← hY53] at hZ53
  replace hZ53 : zHx D ca ad lnM Ki.2 L F B ((a, .inr (13, rg 81 g53)) :: Y53) A H53 := hZ53
  clear hZ52 hS52
  refine lv_aload_n hx hb d_16_1_226 rfl (lv_at hl 0 rfl) ?_
  refine lv_sipush (v := iI 3200) hx hb d_16_1_227 (by decide) ?_
  refine zxnewa (atype := .int) hx hb hts (ty := .int) rfl k_1_57 hK 0 rfl (fun _ _ => gu_int) hZ53 hS53 hA (a0 := (3200, .inl (zAr (fun _ => 0)))) (fun _ => rfl) (by decide) (N' := 3200) (by decide) (Nat.le_of_ble_eq_true rfl) (Nat.le_of_ble_eq_true rfl) (Nat.le_of_ble_eq_true rfl) d_16_1_230 (fun q54 H54 hZ54 hS54 => ?_)
  replace hZ54 := zHx.rot hZ54
  replace hZ54 : zHx D ca ad lnM Ki.2 L F B ((q54, .inl (ca 0, 3200, .inl (zAr (fun _ => 0)))) :: (a, .inr (13, rg 81 g53)) :: Y53) A H54 := hZ54
  clear hZ53 hS53
  refine W.widen (k := 27) (n := 120024) (Nat.le_of_ble_eq_true rfl) (Nat.le_of_ble_eq_true rfl) ?_
  obtain ⟨g55, hg55⟩ : ∃ gz : Nat → Value, gz = va_up g53 34 (.ref q54) := ⟨_, rfl⟩
  refine zxputF hx hb hts inW_13 tyX13 tyX13_ok nmX13 hown hK hZ54 hS54 1 rfl rfl (k := 34) (by decide) k_9_185 rfl hnm rfl rfl rfl d_16_1_232 (fun H55 locs55 hZ55 hS55 => ?_)
  rw [← hg55] at hZ55
  obtain ⟨Y55, hY55⟩ : ∃ Yz : va_W, Yz = (q54, .inl (ca 0, 3200, .inl (zAr (fun _ => 0)))) :: Y53 := ⟨_, rfl⟩
  replace hZ55 : zHx D ca ad lnM Ki.2 L F B ((a, .inr (13, rg 81 g55)) :: (q54, .inl (ca 0, 3200, .inl (zAr (fun _ => 0)))) :: Y53) A H55 := zHx.swp hZ55
  rw [← hY55] at hZ55
  replace hZ55 : zHx D ca ad lnM Ki.2 L F B ((a, .inr (13, rg 81 g55)) :: Y55) A H55 := hZ55
  clear hZ54 hS54
  refine lv_aload_n hx hb d_16_1_235 rfl (lv_at hl 0 rfl) ?_
  refine lv_sipush (v := iI 3200) hx hb d_16_1_236 (by decide) ?_
  refine zxnewa (atype := .int) hx hb hts (ty := .int) rfl k_1_57 hK 0 rfl (fun _ _ => gu_int) hZ55 hS55 hA (a0 := (3200, .inl (zAr (fun _ => 0)))) (fun _ => rfl) (by decide) (N' := 3200) (by decide) (Nat.le_of_ble_eq_true rfl) (Nat.le_of_ble_eq_true rfl) (Nat.le_of_ble_eq_true rfl) d_16_1_239 (fun q56 H56 hZ56 hS56 => ?_)
  replace hZ56 := zHx.rot hZ56
  replace hZ56 : zHx D ca ad lnM Ki.2 L F B ((q56, .inl (ca 0, 3200, .inl (zAr (fun _ => 0)))) :: (a, .inr (13, rg 81 g55)) :: Y55) A H56 := hZ56
  clear hZ55 hS55
  refine W.widen (k := 28) (n := 123224) (Nat.le_of_ble_eq_true rfl) (Nat.le_of_ble_eq_true rfl) ?_
  obtain ⟨g57, hg57⟩ : ∃ gz : Nat → Value, gz = va_up g55 35 (.ref q56) := ⟨_, rfl⟩
  refine zxputF hx hb hts inW_13 tyX13 tyX13_ok nmX13 hown hK hZ56 hS56 1 rfl rfl (k := 35) (by decide) k_9_187 rfl hnm rfl rfl rfl d_16_1_241 (fun H57 locs57 hZ57 hS57 => ?_)
  rw [← hg57] at hZ57
  obtain ⟨Y57, hY57⟩ : ∃ Yz : va_W, Yz = (q56, .inl (ca 0, 3200, .inl (zAr (fun _ => 0)))) :: Y55 := ⟨_, rfl⟩
  replace hZ57 : zHx D ca ad lnM Ki.2 L F B ((a, .inr (13, rg 81 g57)) :: (q56, .inl (ca 0, 3200, .inl (zAr (fun _ => 0)))) :: Y55) A H57 := zHx.swp hZ57
  rw [← hY57] at hZ57
  replace hZ57 : zHx D ca ad lnM Ki.2 L F B ((a, .inr (13, rg 81 g57)) :: Y57) A H57 := hZ57
  clear hZ56 hS56
  refine lv_aload_n hx hb d_16_1_244 rfl (lv_at hl 0 rfl) ?_
  refine lv_sipush (v := iI 3200) hx hb d_16_1_245 (by decide) ?_
  refine zxnewa (atype := .int) hx hb hts (ty := .int) rfl k_1_57 hK 0 rfl (fun _ _ => gu_int) hZ57 hS57 hA (a0 := (3200, .inl (zAr (fun _ => 0)))) (fun _ => rfl) (by decide) (N' := 3200) (by decide) (Nat.le_of_ble_eq_true rfl) (Nat.le_of_ble_eq_true rfl) (Nat.le_of_ble_eq_true rfl) d_16_1_248 (fun q58 H58 hZ58 hS58 => ?_)
  replace hZ58 := zHx.rot hZ58
  replace hZ58 : zHx D ca ad lnM Ki.2 L F B ((q58, .inl (ca 0, 3200, .inl (zAr (fun _ => 0)))) :: (a, .inr (13, rg 81 g57)) :: Y57) A H58 := hZ58
  clear hZ57 hS57
  refine W.widen (k := 29) (n := 126424) (Nat.le_of_ble_eq_true rfl) (Nat.le_of_ble_eq_true rfl) ?_
  obtain ⟨g59, hg59⟩ : ∃ gz : Nat → Value, gz = va_up g57 36 (.ref q58) := ⟨_, rfl⟩
  refine zxputF hx hb hts inW_13 tyX13 tyX13_ok nmX13 hown hK hZ58 hS58 1 rfl rfl (k := 36) (by decide) k_9_189 rfl hnm rfl rfl rfl d_16_1_250 (fun H59 locs59 hZ59 hS59 => ?_)
  rw [← hg59] at hZ59
  obtain ⟨Y59, hY59⟩ : ∃ Yz : va_W, Yz = (q58, .inl (ca 0, 3200, .inl (zAr (fun _ => 0)))) :: Y57 := ⟨_, rfl⟩
  replace hZ59 : zHx D ca ad lnM Ki.2 L F B ((a, .inr (13, rg 81 g59)) :: (q58, .inl (ca 0, 3200, .inl (zAr (fun _ => 0)))) :: Y57) A H59 := zHx.swp hZ59
  rw [← hY59] at hZ59
  replace hZ59 : zHx D ca ad lnM Ki.2 L F B ((a, .inr (13, rg 81 g59)) :: Y59) A H59 := hZ59
  clear hZ58 hS58
  refine lv_aload_n hx hb d_16_1_253 rfl (lv_at hl 0 rfl) ?_
  refine lv_sipush (v := iI 3200) hx hb d_16_1_254 (by decide) ?_
  refine zxnewa (atype := .int) hx hb hts (ty := .int) rfl k_1_57 hK 0 rfl (fun _ _ => gu_int) hZ59 hS59 hA (a0 := (3200, .inl (zAr (fun _ => 0)))) (fun _ => rfl) (by decide) (N' := 3200) (by decide) (Nat.le_of_ble_eq_true rfl) (Nat.le_of_ble_eq_true rfl) (Nat.le_of_ble_eq_true rfl) d_16_1_257 (fun q60 H60 hZ60 hS60 => ?_)
  replace hZ60 := zHx.rot hZ60
  replace hZ60 : zHx D ca ad lnM Ki.2 L F B ((q60, .inl (ca 0, 3200, .inl (zAr (fun _ => 0)))) :: (a, .inr (13, rg 81 g59)) :: Y59) A H60 := hZ60
  clear hZ59 hS59
  refine W.widen (k := 30) (n := 129624) (Nat.le_of_ble_eq_true rfl) (Nat.le_of_ble_eq_true rfl) ?_
  obtain ⟨g61, hg61⟩ : ∃ gz : Nat → Value, gz = va_up g59 37 (.ref q60) := ⟨_, rfl⟩
  refine zxputF hx hb hts inW_13 tyX13 tyX13_ok nmX13 hown hK hZ60 hS60 1 rfl rfl (k := 37) (by decide) k_9_191 rfl hnm rfl rfl rfl d_16_1_259 (fun H61 locs61 hZ61 hS61 => ?_)
  rw [← hg61] at hZ61
  obtain ⟨Y61, hY61⟩ : ∃ Yz : va_W, Yz = (q60, .inl (ca 0, 3200, .inl (zAr (fun _ => 0)))) :: Y59 := ⟨_, rfl⟩
  replace hZ61 : zHx D ca ad lnM Ki.2 L F B ((a, .inr (13, rg 81 g61)) :: (q60, .inl (ca 0, 3200, .inl (zAr (fun _ => 0)))) :: Y59) A H61 := zHx.swp hZ61
  rw [← hY61] at hZ61
  replace hZ61 : zHx D ca ad lnM Ki.2 L F B ((a, .inr (13, rg 81 g61)) :: Y61) A H61 := hZ61
  clear hZ60 hS60
  refine lv_aload_n hx hb d_16_1_262 rfl (lv_at hl 0 rfl) ?_
  refine lv_sipush (v := iI 3200) hx hb d_16_1_263 (by decide) ?_
  refine zxnewa (atype := .int) hx hb hts (ty := .int) rfl k_1_57 hK 0 rfl (fun _ _ => gu_int) hZ61 hS61 hA (a0 := (3200, .inl (zAr (fun _ => 0)))) (fun _ => rfl) (by decide) (N' := 3200) (by decide) (Nat.le_of_ble_eq_true rfl) (Nat.le_of_ble_eq_true rfl) (Nat.le_of_ble_eq_true rfl) d_16_1_266 (fun q62 H62 hZ62 hS62 => ?_)
  replace hZ62 := zHx.rot hZ62
  replace hZ62 : zHx D ca ad lnM Ki.2 L F B ((q62, .inl (ca 0, 3200, .inl (zAr (fun _ => 0)))) :: (a, .inr (13, rg 81 g61)) :: Y61) A H62 := hZ62
  clear hZ61 hS61
  refine W.widen (k := 31) (n := 132824) (Nat.le_of_ble_eq_true rfl) (Nat.le_of_ble_eq_true rfl) ?_
  obtain ⟨g63, hg63⟩ : ∃ gz : Nat → Value, gz = va_up g61 38 (.ref q62) := ⟨_, rfl⟩
  refine zxputF hx hb hts inW_13 tyX13 tyX13_ok nmX13 hown hK hZ62 hS62 1 rfl rfl (k := 38) (by decide) k_9_193 rfl hnm rfl rfl rfl d_16_1_268 (fun H63 locs63 hZ63 hS63 => ?_)
  rw [← hg63] at hZ63
  obtain ⟨Y63, hY63⟩ : ∃ Yz : va_W, Yz = (q62, .inl (ca 0, 3200, .inl (zAr (fun _ => 0)))) :: Y61 := ⟨_, rfl⟩
  replace hZ63 : zHx D ca ad lnM Ki.2 L F B ((a, .inr (13, rg 81 g63)) :: (q62, .inl (ca 0, 3200, .inl (zAr (fun _ => 0)))) :: Y61) A H63 := zHx.swp hZ63
  rw [← hY63] at hZ63
  replace hZ63 : zHx D ca ad lnM Ki.2 L F B ((a, .inr (13, rg 81 g63)) :: Y63) A H63 := hZ63
  clear hZ62 hS62
  refine lv_aload_n hx hb d_16_1_271 rfl (lv_at hl 0 rfl) ?_
  refine lv_sipush (v := iI 3200) hx hb d_16_1_272 (by decide) ?_
  refine zxnewa (atype := .int) hx hb hts (ty := .int) rfl k_1_57 hK 0 rfl (fun _ _ => gu_int) hZ63 hS63 hA (a0 := (3200, .inl (zAr (fun _ => 0)))) (fun _ => rfl) (by decide) (N' := 3200) (by decide) (Nat.le_of_ble_eq_true rfl) (Nat.le_of_ble_eq_true rfl) (Nat.le_of_ble_eq_true rfl) d_16_1_275 (fun q65 H65 hZ65 hS65 => ?_)
  replace hZ65 := zHx.rot hZ65
  replace hZ65 : zHx D ca ad lnM Ki.2 L F B ((q65, .inl (ca 0, 3200, .inl (zAr (fun _ => 0)))) :: (a, .inr (13, rg 81 g63)) :: Y63) A H65 := hZ65
  clear hZ63 hS63
  refine W.widen (k := 32) (n := 136024) (Nat.le_of_ble_eq_true rfl) (Nat.le_of_ble_eq_true rfl) ?_
  obtain ⟨g66, hg66⟩ : ∃ gz : Nat → Value, gz = va_up g63 39 (.ref q65) := ⟨_, rfl⟩
  refine zxputF hx hb hts inW_13 tyX13 tyX13_ok nmX13 hown hK hZ65 hS65 1 rfl rfl (k := 39) (by decide) k_9_195 rfl hnm rfl rfl rfl d_16_1_277 (fun H66 locs66 hZ66 hS66 => ?_)
  rw [← hg66] at hZ66
  obtain ⟨Y66, hY66⟩ : ∃ Yz : va_W, Yz = (q65, .inl (ca 0, 3200, .inl (zAr (fun _ => 0)))) :: Y63 := ⟨_, rfl⟩
  replace hZ66 : zHx D ca ad lnM Ki.2 L F B ((a, .inr (13, rg 81 g66)) :: (q65, .inl (ca 0, 3200, .inl (zAr (fun _ => 0)))) :: Y63) A H66 := zHx.swp hZ66
  rw [← hY66] at hZ66
  replace hZ66 : zHx D ca ad lnM Ki.2 L F B ((a, .inr (13, rg 81 g66)) :: Y66) A H66 := hZ66
  clear hZ65 hS65
  refine lv_aload_n hx hb d_16_1_280 rfl (lv_at hl 0 rfl) ?_
  refine lv_sipush (v := iI 3200) hx hb d_16_1_281 (by decide) ?_
  refine zxnewa (atype := .int) hx hb hts (ty := .int) rfl k_1_57 hK 0 rfl (fun _ _ => gu_int) hZ66 hS66 hA (a0 := (3200, .inl (zAr (fun _ => 0)))) (fun _ => rfl) (by decide) (N' := 3200) (by decide) (Nat.le_of_ble_eq_true rfl) (Nat.le_of_ble_eq_true rfl) (Nat.le_of_ble_eq_true rfl) d_16_1_284 (fun q67 H67 hZ67 hS67 => ?_)
  replace hZ67 := zHx.rot hZ67
  replace hZ67 : zHx D ca ad lnM Ki.2 L F B ((q67, .inl (ca 0, 3200, .inl (zAr (fun _ => 0)))) :: (a, .inr (13, rg 81 g66)) :: Y66) A H67 := hZ67
  clear hZ66 hS66
  refine W.widen (k := 33) (n := 139224) (Nat.le_of_ble_eq_true rfl) (Nat.le_of_ble_eq_true rfl) ?_
  obtain ⟨g68, hg68⟩ : ∃ gz : Nat → Value, gz = va_up g66 40 (.ref q67) := ⟨_, rfl⟩
  refine zxputF hx hb hts inW_13 tyX13 tyX13_ok nmX13 hown hK hZ67 hS67 1 rfl rfl (k := 40) (by decide) k_9_197 rfl hnm rfl rfl rfl d_16_1_286 (fun H68 locs68 hZ68 hS68 => ?_)
  rw [← hg68] at hZ68
  obtain ⟨Y68, hY68⟩ : ∃ Yz : va_W, Yz = (q67, .inl (ca 0, 3200, .inl (zAr (fun _ => 0)))) :: Y66 := ⟨_, rfl⟩
  replace hZ68 : zHx D ca ad lnM Ki.2 L F B ((a, .inr (13, rg 81 g68)) :: (q67, .inl (ca 0, 3200, .inl (zAr (fun _ => 0)))) :: Y66) A H68 := zHx.swp hZ68
  rw [← hY68] at hZ68
  replace hZ68 : zHx D ca ad lnM Ki.2 L F B ((a, .inr (13, rg 81 g68)) :: Y68) A H68 := hZ68
  clear hZ67 hS67
  refine lv_aload_n hx hb d_16_1_289 rfl (lv_at hl 0 rfl) ?_
  refine lv_sipush (v := iI 3200) hx hb d_16_1_290 (by decide) ?_
  refine zxnewa (atype := .int) hx hb hts (ty := .int) rfl k_1_57 hK 0 rfl (fun _ _ => gu_int) hZ68 hS68 hA (a0 := (3200, .inl (zAr (fun _ => 0)))) (fun _ => rfl) (by decide) (N' := 3200) (by decide) (Nat.le_of_ble_eq_true rfl) (Nat.le_of_ble_eq_true rfl) (Nat.le_of_ble_eq_true rfl) d_16_1_293 (fun q69 H69 hZ69 hS69 => ?_)
  replace hZ69 := zHx.rot hZ69
  replace hZ69 : zHx D ca ad lnM Ki.2 L F B ((q69, .inl (ca 0, 3200, .inl (zAr (fun _ => 0)))) :: (a, .inr (13, rg 81 g68)) :: Y68) A H69 := hZ69
  clear hZ68 hS68
  refine W.widen (k := 34) (n := 142424) (Nat.le_of_ble_eq_true rfl) (Nat.le_of_ble_eq_true rfl) ?_
  obtain ⟨g70, hg70⟩ : ∃ gz : Nat → Value, gz = va_up g68 41 (.ref q69) := ⟨_, rfl⟩
  refine zxputF hx hb hts inW_13 tyX13 tyX13_ok nmX13 hown hK hZ69 hS69 1 rfl rfl (k := 41) (by decide) k_9_199 rfl hnm rfl rfl rfl d_16_1_295 (fun H70 locs70 hZ70 hS70 => ?_)
  rw [← hg70] at hZ70
  obtain ⟨Y70, hY70⟩ : ∃ Yz : va_W, Yz = (q69, .inl (ca 0, 3200, .inl (zAr (fun _ => 0)))) :: Y68 := ⟨_, rfl⟩
  replace hZ70 : zHx D ca ad lnM Ki.2 L F B ((a, .inr (13, rg 81 g70)) :: (q69, .inl (ca 0, 3200, .inl (zAr (fun _ => 0)))) :: Y68) A H70 := zHx.swp hZ70
  rw [← hY70] at hZ70
  replace hZ70 : zHx D ca ad lnM Ki.2 L F B ((a, .inr (13, rg 81 g70)) :: Y70) A H70 := hZ70
  clear hZ69 hS69
  refine lv_aload_n hx hb d_16_1_298 rfl (lv_at hl 0 rfl) ?_
  refine lv_bipush (v := iI 101) hx hb d_16_1_299 (by decide) ?_
  refine zxnewa (atype := .int) hx hb hts (ty := .int) rfl k_1_57 hK 0 rfl (fun _ _ => gu_int) hZ70 hS70 hA (a0 := (101, .inl (zAr (fun _ => 0)))) (fun _ => rfl) (by decide) (N' := 101) (by decide) (Nat.le_of_ble_eq_true rfl) (Nat.le_of_ble_eq_true rfl) (Nat.le_of_ble_eq_true rfl) d_16_1_301 (fun q71 H71 hZ71 hS71 => ?_)
  replace hZ71 := zHx.rot hZ71
  replace hZ71 : zHx D ca ad lnM Ki.2 L F B ((q71, .inl (ca 0, 101, .inl (zAr (fun _ => 0)))) :: (a, .inr (13, rg 81 g70)) :: Y70) A H71 := hZ71
  clear hZ70 hS70
  refine W.widen (k := 35) (n := 142525) (Nat.le_of_ble_eq_true rfl) (Nat.le_of_ble_eq_true rfl) ?_
  obtain ⟨g72, hg72⟩ : ∃ gz : Nat → Value, gz = va_up g70 42 (.ref q71) := ⟨_, rfl⟩
  refine zxputF hx hb hts inW_13 tyX13 tyX13_ok nmX13 hown hK hZ71 hS71 1 rfl rfl (k := 42) (by decide) k_9_201 rfl hnm rfl rfl rfl d_16_1_303 (fun H72 locs72 hZ72 hS72 => ?_)
  rw [← hg72] at hZ72
  obtain ⟨Y72, hY72⟩ : ∃ Yz : va_W, Yz = (q71, .inl (ca 0, 101, .inl (zAr (fun _ => 0)))) :: Y70 := ⟨_, rfl⟩
  replace hZ72 : zHx D ca ad lnM Ki.2 L F B ((a, .inr (13, rg 81 g72)) :: (q71, .inl (ca 0, 101, .inl (zAr (fun _ => 0)))) :: Y70) A H72 := zHx.swp hZ72
  rw [← hY72] at hZ72
  replace hZ72 : zHx D ca ad lnM Ki.2 L F B ((a, .inr (13, rg 81 g72)) :: Y72) A H72 := hZ72
  clear hZ71 hS71
  refine lv_aload_n hx hb d_16_1_306 rfl (lv_at hl 0 rfl) ?_
  refine lv_sipush (v := iI 3200) hx hb d_16_1_307 (by decide) ?_
  refine zxnewa (atype := .long) hx hb hts (ty := .long) rfl k_1_105 hK 1 rfl (fun _ _ => gu_long) hZ72 hS72 hA (a0 := (3200, .inr (.inl (zLr (fun _ => 0))))) (fun _ => rfl) (by decide) (N' := 3200) (by decide) (Nat.le_of_ble_eq_true rfl) (Nat.le_of_ble_eq_true rfl) (Nat.le_of_ble_eq_true rfl) d_16_1_310 (fun q73 H73 hZ73 hS73 => ?_)
  replace hZ73 := zHx.rot hZ73
  replace hZ73 : zHx D ca ad lnM Ki.2 L F B ((q73, .inl (ca 1, 3200, .inr (.inl (zLr (fun _ => 0))))) :: (a, .inr (13, rg 81 g72)) :: Y72) A H73 := hZ73
  clear hZ72 hS72
  refine W.widen (k := 36) (n := 145725) (Nat.le_of_ble_eq_true rfl) (Nat.le_of_ble_eq_true rfl) ?_
  obtain ⟨g74, hg74⟩ : ∃ gz : Nat → Value, gz = va_up g72 43 (.ref q73) := ⟨_, rfl⟩
  refine zxputF hx hb hts inW_13 tyX13 tyX13_ok nmX13 hown hK hZ73 hS73 1 rfl rfl (k := 43) (by decide) k_9_203 rfl hnm rfl rfl rfl d_16_1_312 (fun H74 locs74 hZ74 hS74 => ?_)
  rw [← hg74] at hZ74
  obtain ⟨Y74, hY74⟩ : ∃ Yz : va_W, Yz = (q73, .inl (ca 1, 3200, .inr (.inl (zLr (fun _ => 0))))) :: Y72 := ⟨_, rfl⟩
  replace hZ74 : zHx D ca ad lnM Ki.2 L F B ((a, .inr (13, rg 81 g74)) :: (q73, .inl (ca 1, 3200, .inr (.inl (zLr (fun _ => 0))))) :: Y72) A H74 := zHx.swp hZ74
  rw [← hY74] at hZ74
  replace hZ74 : zHx D ca ad lnM Ki.2 L F B ((a, .inr (13, rg 81 g74)) :: Y74) A H74 := hZ74
  clear hZ73 hS73
  refine lv_aload_n hx hb d_16_1_315 rfl (lv_at hl 0 rfl) ?_
  refine lv_sipush (v := iI 3200) hx hb d_16_1_316 (by decide) ?_
  refine zxnewa (atype := .long) hx hb hts (ty := .long) rfl k_1_105 hK 1 rfl (fun _ _ => gu_long) hZ74 hS74 hA (a0 := (3200, .inr (.inl (zLr (fun _ => 0))))) (fun _ => rfl) (by decide) (N' := 3200) (by decide) (Nat.le_of_ble_eq_true rfl) (Nat.le_of_ble_eq_true rfl) (Nat.le_of_ble_eq_true rfl) d_16_1_319 (fun q75 H75 hZ75 hS75 => ?_)
  replace hZ75 := zHx.rot hZ75
  replace hZ75 : zHx D ca ad lnM Ki.2 L F B ((q75, .inl (ca 1, 3200, .inr (.inl (zLr (fun _ => 0))))) :: (a, .inr (13, rg 81 g74)) :: Y74) A H75 := hZ75
  clear hZ74 hS74
  refine W.widen (k := 37) (n := 148925) (Nat.le_of_ble_eq_true rfl) (Nat.le_of_ble_eq_true rfl) ?_
  obtain ⟨g76, hg76⟩ : ∃ gz : Nat → Value, gz = va_up g74 44 (.ref q75) := ⟨_, rfl⟩
  refine zxputF hx hb hts inW_13 tyX13 tyX13_ok nmX13 hown hK hZ75 hS75 1 rfl rfl (k := 44) (by decide) k_9_205 rfl hnm rfl rfl rfl d_16_1_321 (fun H76 locs76 hZ76 hS76 => ?_)
  rw [← hg76] at hZ76
  obtain ⟨Y76, hY76⟩ : ∃ Yz : va_W, Yz = (q75, .inl (ca 1, 3200, .inr (.inl (zLr (fun _ => 0))))) :: Y74 := ⟨_, rfl⟩
  replace hZ76 : zHx D ca ad lnM Ki.2 L F B ((a, .inr (13, rg 81 g76)) :: (q75, .inl (ca 1, 3200, .inr (.inl (zLr (fun _ => 0))))) :: Y74) A H76 := zHx.swp hZ76
  rw [← hY76] at hZ76
  replace hZ76 : zHx D ca ad lnM Ki.2 L F B ((a, .inr (13, rg 81 g76)) :: Y76) A H76 := hZ76
  clear hZ75 hS75
  refine lv_aload_n hx hb d_16_1_324 rfl (lv_at hl 0 rfl) ?_
  refine lv_sipush (v := iI 3200) hx hb d_16_1_325 (by decide) ?_
  refine zxnewa (atype := .int) hx hb hts (ty := .int) rfl k_1_57 hK 0 rfl (fun _ _ => gu_int) hZ76 hS76 hA (a0 := (3200, .inl (zAr (fun _ => 0)))) (fun _ => rfl) (by decide) (N' := 3200) (by decide) (Nat.le_of_ble_eq_true rfl) (Nat.le_of_ble_eq_true rfl) (Nat.le_of_ble_eq_true rfl) d_16_1_328 (fun q77 H77 hZ77 hS77 => ?_)
  replace hZ77 := zHx.rot hZ77
  replace hZ77 : zHx D ca ad lnM Ki.2 L F B ((q77, .inl (ca 0, 3200, .inl (zAr (fun _ => 0)))) :: (a, .inr (13, rg 81 g76)) :: Y76) A H77 := hZ77
  clear hZ76 hS76
  refine W.widen (k := 38) (n := 152125) (Nat.le_of_ble_eq_true rfl) (Nat.le_of_ble_eq_true rfl) ?_
  obtain ⟨g78, hg78⟩ : ∃ gz : Nat → Value, gz = va_up g76 45 (.ref q77) := ⟨_, rfl⟩
  refine zxputF hx hb hts inW_13 tyX13 tyX13_ok nmX13 hown hK hZ77 hS77 1 rfl rfl (k := 45) (by decide) k_9_207 rfl hnm rfl rfl rfl d_16_1_330 (fun H78 locs78 hZ78 hS78 => ?_)
  rw [← hg78] at hZ78
  obtain ⟨Y78, hY78⟩ : ∃ Yz : va_W, Yz = (q77, .inl (ca 0, 3200, .inl (zAr (fun _ => 0)))) :: Y76 := ⟨_, rfl⟩
  replace hZ78 : zHx D ca ad lnM Ki.2 L F B ((a, .inr (13, rg 81 g78)) :: (q77, .inl (ca 0, 3200, .inl (zAr (fun _ => 0)))) :: Y76) A H78 := zHx.swp hZ78
  rw [← hY78] at hZ78
  replace hZ78 : zHx D ca ad lnM Ki.2 L F B ((a, .inr (13, rg 81 g78)) :: Y78) A H78 := hZ78
  clear hZ77 hS77
  refine lv_aload_n hx hb d_16_1_333 rfl (lv_at hl 0 rfl) ?_
  refine lv_bipush (v := iI 100) hx hb d_16_1_334 (by decide) ?_
  refine zxnewa (atype := .int) hx hb hts (ty := .int) rfl k_1_57 hK 0 rfl (fun _ _ => gu_int) hZ78 hS78 hA (a0 := (100, .inl (zAr (fun _ => 0)))) (fun _ => rfl) (by decide) (N' := 100) (by decide) (Nat.le_of_ble_eq_true rfl) (Nat.le_of_ble_eq_true rfl) (Nat.le_of_ble_eq_true rfl) d_16_1_336 (fun q79 H79 hZ79 hS79 => ?_)
  replace hZ79 := zHx.rot hZ79
  replace hZ79 : zHx D ca ad lnM Ki.2 L F B ((q79, .inl (ca 0, 100, .inl (zAr (fun _ => 0)))) :: (a, .inr (13, rg 81 g78)) :: Y78) A H79 := hZ79
  clear hZ78 hS78
  refine W.widen (k := 39) (n := 152225) (Nat.le_of_ble_eq_true rfl) (Nat.le_of_ble_eq_true rfl) ?_
  obtain ⟨g80, hg80⟩ : ∃ gz : Nat → Value, gz = va_up g78 46 (.ref q79) := ⟨_, rfl⟩
  refine zxputF hx hb hts inW_13 tyX13 tyX13_ok nmX13 hown hK hZ79 hS79 1 rfl rfl (k := 46) (by decide) k_9_209 rfl hnm rfl rfl rfl d_16_1_338 (fun H80 locs80 hZ80 hS80 => ?_)
  rw [← hg80] at hZ80
  obtain ⟨Y80, hY80⟩ : ∃ Yz : va_W, Yz = (q79, .inl (ca 0, 100, .inl (zAr (fun _ => 0)))) :: Y78 := ⟨_, rfl⟩
  replace hZ80 : zHx D ca ad lnM Ki.2 L F B ((a, .inr (13, rg 81 g80)) :: (q79, .inl (ca 0, 100, .inl (zAr (fun _ => 0)))) :: Y78) A H80 := zHx.swp hZ80
  rw [← hY80] at hZ80
  replace hZ80 : zHx D ca ad lnM Ki.2 L F B ((a, .inr (13, rg 81 g80)) :: Y80) A H80 := hZ80
  clear hZ79 hS79
  refine lv_aload_n hx hb d_16_1_341 rfl (lv_at hl 0 rfl) ?_
  refine lv_bipush (v := iI 100) hx hb d_16_1_342 (by decide) ?_
  refine zxnewa (atype := .int) hx hb hts (ty := .int) rfl k_1_57 hK 0 rfl (fun _ _ => gu_int) hZ80 hS80 hA (a0 := (100, .inl (zAr (fun _ => 0)))) (fun _ => rfl) (by decide) (N' := 100) (by decide) (Nat.le_of_ble_eq_true rfl) (Nat.le_of_ble_eq_true rfl) (Nat.le_of_ble_eq_true rfl) d_16_1_344 (fun q81 H81 hZ81 hS81 => ?_)
  replace hZ81 := zHx.rot hZ81
  replace hZ81 : zHx D ca ad lnM Ki.2 L F B ((q81, .inl (ca 0, 100, .inl (zAr (fun _ => 0)))) :: (a, .inr (13, rg 81 g80)) :: Y80) A H81 := hZ81
  clear hZ80 hS80
  refine W.widen (k := 40) (n := 152325) (Nat.le_of_ble_eq_true rfl) (Nat.le_of_ble_eq_true rfl) ?_
  obtain ⟨g82, hg82⟩ : ∃ gz : Nat → Value, gz = va_up g80 49 (.ref q81) := ⟨_, rfl⟩
  refine zxputF hx hb hts inW_13 tyX13 tyX13_ok nmX13 hown hK hZ81 hS81 1 rfl rfl (k := 49) (by decide) k_9_213 rfl hnm rfl rfl rfl d_16_1_346 (fun H82 locs82 hZ82 hS82 => ?_)
  rw [← hg82] at hZ82
  obtain ⟨Y82, hY82⟩ : ∃ Yz : va_W, Yz = (q81, .inl (ca 0, 100, .inl (zAr (fun _ => 0)))) :: Y80 := ⟨_, rfl⟩
  replace hZ82 : zHx D ca ad lnM Ki.2 L F B ((a, .inr (13, rg 81 g82)) :: (q81, .inl (ca 0, 100, .inl (zAr (fun _ => 0)))) :: Y80) A H82 := zHx.swp hZ82
  rw [← hY82] at hZ82
  replace hZ82 : zHx D ca ad lnM Ki.2 L F B ((a, .inr (13, rg 81 g82)) :: Y82) A H82 := hZ82
  clear hZ81 hS81
  refine lv_aload_n hx hb d_16_1_349 rfl (lv_at hl 0 rfl) ?_
  refine lv_bipush (v := iI 100) hx hb d_16_1_350 (by decide) ?_
  refine zxnewa (atype := .int) hx hb hts (ty := .int) rfl k_1_57 hK 0 rfl (fun _ _ => gu_int) hZ82 hS82 hA (a0 := (100, .inl (zAr (fun _ => 0)))) (fun _ => rfl) (by decide) (N' := 100) (by decide) (Nat.le_of_ble_eq_true rfl) (Nat.le_of_ble_eq_true rfl) (Nat.le_of_ble_eq_true rfl) d_16_1_352 (fun q83 H83 hZ83 hS83 => ?_)
  replace hZ83 := zHx.rot hZ83
  replace hZ83 : zHx D ca ad lnM Ki.2 L F B ((q83, .inl (ca 0, 100, .inl (zAr (fun _ => 0)))) :: (a, .inr (13, rg 81 g82)) :: Y82) A H83 := hZ83
  clear hZ82 hS82
  refine W.widen (k := 41) (n := 152425) (Nat.le_of_ble_eq_true rfl) (Nat.le_of_ble_eq_true rfl) ?_
  obtain ⟨g84, hg84⟩ : ∃ gz : Nat → Value, gz = va_up g82 50 (.ref q83) := ⟨_, rfl⟩
  refine zxputF hx hb hts inW_13 tyX13 tyX13_ok nmX13 hown hK hZ83 hS83 1 rfl rfl (k := 50) (by decide) k_9_215 rfl hnm rfl rfl rfl d_16_1_354 (fun H84 locs84 hZ84 hS84 => ?_)
  rw [← hg84] at hZ84
  obtain ⟨Y84, hY84⟩ : ∃ Yz : va_W, Yz = (q83, .inl (ca 0, 100, .inl (zAr (fun _ => 0)))) :: Y82 := ⟨_, rfl⟩
  replace hZ84 : zHx D ca ad lnM Ki.2 L F B ((a, .inr (13, rg 81 g84)) :: (q83, .inl (ca 0, 100, .inl (zAr (fun _ => 0)))) :: Y82) A H84 := zHx.swp hZ84
  rw [← hY84] at hZ84
  replace hZ84 : zHx D ca ad lnM Ki.2 L F B ((a, .inr (13, rg 81 g84)) :: Y84) A H84 := hZ84
  clear hZ83 hS83
  refine lv_aload_n hx hb d_16_1_357 rfl (lv_at hl 0 rfl) ?_
  refine lv_bipush (v := iI 100) hx hb d_16_1_358 (by decide) ?_
  refine zxnewa (atype := .int) hx hb hts (ty := .int) rfl k_1_57 hK 0 rfl (fun _ _ => gu_int) hZ84 hS84 hA (a0 := (100, .inl (zAr (fun _ => 0)))) (fun _ => rfl) (by decide) (N' := 100) (by decide) (Nat.le_of_ble_eq_true rfl) (Nat.le_of_ble_eq_true rfl) (Nat.le_of_ble_eq_true rfl) d_16_1_360 (fun q85 H85 hZ85 hS85 => ?_)
  replace hZ85 := zHx.rot hZ85
  replace hZ85 : zHx D ca ad lnM Ki.2 L F B ((q85, .inl (ca 0, 100, .inl (zAr (fun _ => 0)))) :: (a, .inr (13, rg 81 g84)) :: Y84) A H85 := hZ85
  clear hZ84 hS84
  refine W.widen (k := 42) (n := 152525) (Nat.le_of_ble_eq_true rfl) (Nat.le_of_ble_eq_true rfl) ?_
  obtain ⟨g86, hg86⟩ : ∃ gz : Nat → Value, gz = va_up g84 51 (.ref q85) := ⟨_, rfl⟩
  refine zxputF hx hb hts inW_13 tyX13 tyX13_ok nmX13 hown hK hZ85 hS85 1 rfl rfl (k := 51) (by decide) k_9_217 rfl hnm rfl rfl rfl d_16_1_362 (fun H86 locs86 hZ86 hS86 => ?_)
  rw [← hg86] at hZ86
  obtain ⟨Y86, hY86⟩ : ∃ Yz : va_W, Yz = (q85, .inl (ca 0, 100, .inl (zAr (fun _ => 0)))) :: Y84 := ⟨_, rfl⟩
  replace hZ86 : zHx D ca ad lnM Ki.2 L F B ((a, .inr (13, rg 81 g86)) :: (q85, .inl (ca 0, 100, .inl (zAr (fun _ => 0)))) :: Y84) A H86 := zHx.swp hZ86
  rw [← hY86] at hZ86
  replace hZ86 : zHx D ca ad lnM Ki.2 L F B ((a, .inr (13, rg 81 g86)) :: Y86) A H86 := hZ86
  clear hZ85 hS85
  refine lv_aload_n hx hb d_16_1_365 rfl (lv_at hl 0 rfl) ?_
  refine lv_bipush (v := iI 100) hx hb d_16_1_366 (by decide) ?_
  refine zxnewa (atype := .long) hx hb hts (ty := .long) rfl k_1_105 hK 1 rfl (fun _ _ => gu_long) hZ86 hS86 hA (a0 := (100, .inr (.inl (zLr (fun _ => 0))))) (fun _ => rfl) (by decide) (N' := 100) (by decide) (Nat.le_of_ble_eq_true rfl) (Nat.le_of_ble_eq_true rfl) (Nat.le_of_ble_eq_true rfl) d_16_1_368 (fun q87 H87 hZ87 hS87 => ?_)
  replace hZ87 := zHx.rot hZ87
  replace hZ87 : zHx D ca ad lnM Ki.2 L F B ((q87, .inl (ca 1, 100, .inr (.inl (zLr (fun _ => 0))))) :: (a, .inr (13, rg 81 g86)) :: Y86) A H87 := hZ87
  clear hZ86 hS86
  refine W.widen (k := 43) (n := 152625) (Nat.le_of_ble_eq_true rfl) (Nat.le_of_ble_eq_true rfl) ?_
  obtain ⟨g88, hg88⟩ : ∃ gz : Nat → Value, gz = va_up g86 52 (.ref q87) := ⟨_, rfl⟩
  refine zxputF hx hb hts inW_13 tyX13 tyX13_ok nmX13 hown hK hZ87 hS87 1 rfl rfl (k := 52) (by decide) k_9_219 rfl hnm rfl rfl rfl d_16_1_370 (fun H88 locs88 hZ88 hS88 => ?_)
  rw [← hg88] at hZ88
  obtain ⟨Y88, hY88⟩ : ∃ Yz : va_W, Yz = (q87, .inl (ca 1, 100, .inr (.inl (zLr (fun _ => 0))))) :: Y86 := ⟨_, rfl⟩
  replace hZ88 : zHx D ca ad lnM Ki.2 L F B ((a, .inr (13, rg 81 g88)) :: (q87, .inl (ca 1, 100, .inr (.inl (zLr (fun _ => 0))))) :: Y86) A H88 := zHx.swp hZ88
  rw [← hY88] at hZ88
  replace hZ88 : zHx D ca ad lnM Ki.2 L F B ((a, .inr (13, rg 81 g88)) :: Y88) A H88 := hZ88
  clear hZ87 hS87
  refine lv_aload_n hx hb d_16_1_373 rfl (lv_at hl 0 rfl) ?_
  refine lv_sipush (v := iI 2000) hx hb d_16_1_374 (by decide) ?_
  refine zxnewa (atype := .int) hx hb hts (ty := .int) rfl k_1_57 hK 0 rfl (fun _ _ => gu_int) hZ88 hS88 hA (a0 := (2000, .inl (zAr (fun _ => 0)))) (fun _ => rfl) (by decide) (N' := 2000) (by decide) (Nat.le_of_ble_eq_true rfl) (Nat.le_of_ble_eq_true rfl) (Nat.le_of_ble_eq_true rfl) d_16_1_377 (fun q89 H89 hZ89 hS89 => ?_)
  replace hZ89 := zHx.rot hZ89
  replace hZ89 : zHx D ca ad lnM Ki.2 L F B ((q89, .inl (ca 0, 2000, .inl (zAr (fun _ => 0)))) :: (a, .inr (13, rg 81 g88)) :: Y88) A H89 := hZ89
  clear hZ88 hS88
  refine W.widen (k := 44) (n := 154625) (Nat.le_of_ble_eq_true rfl) (Nat.le_of_ble_eq_true rfl) ?_
  obtain ⟨g90, hg90⟩ : ∃ gz : Nat → Value, gz = va_up g88 55 (.ref q89) := ⟨_, rfl⟩
  refine zxputF hx hb hts inW_13 tyX13 tyX13_ok nmX13 hown hK hZ89 hS89 1 rfl rfl (k := 55) (by decide) k_9_223 rfl hnm rfl rfl rfl d_16_1_379 (fun H90 locs90 hZ90 hS90 => ?_)
  rw [← hg90] at hZ90
  obtain ⟨Y90, hY90⟩ : ∃ Yz : va_W, Yz = (q89, .inl (ca 0, 2000, .inl (zAr (fun _ => 0)))) :: Y88 := ⟨_, rfl⟩
  replace hZ90 : zHx D ca ad lnM Ki.2 L F B ((a, .inr (13, rg 81 g90)) :: (q89, .inl (ca 0, 2000, .inl (zAr (fun _ => 0)))) :: Y88) A H90 := zHx.swp hZ90
  rw [← hY90] at hZ90
  replace hZ90 : zHx D ca ad lnM Ki.2 L F B ((a, .inr (13, rg 81 g90)) :: Y90) A H90 := hZ90
  clear hZ89 hS89
  refine lv_aload_n hx hb d_16_1_382 rfl (lv_at hl 0 rfl) ?_
  refine lv_sipush (v := iI 2000) hx hb d_16_1_383 (by decide) ?_
  refine zxnewa (atype := .int) hx hb hts (ty := .int) rfl k_1_57 hK 0 rfl (fun _ _ => gu_int) hZ90 hS90 hA (a0 := (2000, .inl (zAr (fun _ => 0)))) (fun _ => rfl) (by decide) (N' := 2000) (by decide) (Nat.le_of_ble_eq_true rfl) (Nat.le_of_ble_eq_true rfl) (Nat.le_of_ble_eq_true rfl) d_16_1_386 (fun q91 H91 hZ91 hS91 => ?_)
  replace hZ91 := zHx.rot hZ91
  replace hZ91 : zHx D ca ad lnM Ki.2 L F B ((q91, .inl (ca 0, 2000, .inl (zAr (fun _ => 0)))) :: (a, .inr (13, rg 81 g90)) :: Y90) A H91 := hZ91
  clear hZ90 hS90
  refine W.widen (k := 45) (n := 156625) (Nat.le_of_ble_eq_true rfl) (Nat.le_of_ble_eq_true rfl) ?_
  obtain ⟨g92, hg92⟩ : ∃ gz : Nat → Value, gz = va_up g90 56 (.ref q91) := ⟨_, rfl⟩
  refine zxputF hx hb hts inW_13 tyX13 tyX13_ok nmX13 hown hK hZ91 hS91 1 rfl rfl (k := 56) (by decide) k_9_225 rfl hnm rfl rfl rfl d_16_1_388 (fun H92 locs92 hZ92 hS92 => ?_)
  rw [← hg92] at hZ92
  obtain ⟨Y92, hY92⟩ : ∃ Yz : va_W, Yz = (q91, .inl (ca 0, 2000, .inl (zAr (fun _ => 0)))) :: Y90 := ⟨_, rfl⟩
  replace hZ92 : zHx D ca ad lnM Ki.2 L F B ((a, .inr (13, rg 81 g92)) :: (q91, .inl (ca 0, 2000, .inl (zAr (fun _ => 0)))) :: Y90) A H92 := zHx.swp hZ92
  rw [← hY92] at hZ92
  replace hZ92 : zHx D ca ad lnM Ki.2 L F B ((a, .inr (13, rg 81 g92)) :: Y92) A H92 := hZ92
  clear hZ91 hS91
  refine lv_aload_n hx hb d_16_1_391 rfl (lv_at hl 0 rfl) ?_
  refine lv_sipush (v := iI 2000) hx hb d_16_1_392 (by decide) ?_
  refine zxnewa (atype := .int) hx hb hts (ty := .int) rfl k_1_57 hK 0 rfl (fun _ _ => gu_int) hZ92 hS92 hA (a0 := (2000, .inl (zAr (fun _ => 0)))) (fun _ => rfl) (by decide) (N' := 2000) (by decide) (Nat.le_of_ble_eq_true rfl) (Nat.le_of_ble_eq_true rfl) (Nat.le_of_ble_eq_true rfl) d_16_1_395 (fun q93 H93 hZ93 hS93 => ?_)
  replace hZ93 := zHx.rot hZ93
  replace hZ93 : zHx D ca ad lnM Ki.2 L F B ((q93, .inl (ca 0, 2000, .inl (zAr (fun _ => 0)))) :: (a, .inr (13, rg 81 g92)) :: Y92) A H93 := hZ93
  clear hZ92 hS92
  refine W.widen (k := 46) (n := 158625) (Nat.le_of_ble_eq_true rfl) (Nat.le_of_ble_eq_true rfl) ?_
  obtain ⟨g94, hg94⟩ : ∃ gz : Nat → Value, gz = va_up g92 57 (.ref q93) := ⟨_, rfl⟩
  refine zxputF hx hb hts inW_13 tyX13 tyX13_ok nmX13 hown hK hZ93 hS93 1 rfl rfl (k := 57) (by decide) k_9_227 rfl hnm rfl rfl rfl d_16_1_397 (fun H94 locs94 hZ94 hS94 => ?_)
  rw [← hg94] at hZ94
  obtain ⟨Y94, hY94⟩ : ∃ Yz : va_W, Yz = (q93, .inl (ca 0, 2000, .inl (zAr (fun _ => 0)))) :: Y92 := ⟨_, rfl⟩
  replace hZ94 : zHx D ca ad lnM Ki.2 L F B ((a, .inr (13, rg 81 g94)) :: (q93, .inl (ca 0, 2000, .inl (zAr (fun _ => 0)))) :: Y92) A H94 := zHx.swp hZ94
  rw [← hY94] at hZ94
  replace hZ94 : zHx D ca ad lnM Ki.2 L F B ((a, .inr (13, rg 81 g94)) :: Y94) A H94 := hZ94
  clear hZ93 hS93
  refine lv_aload_n hx hb d_16_1_400 rfl (lv_at hl 0 rfl) ?_
  refine lv_sipush (v := iI 2000) hx hb d_16_1_401 (by decide) ?_
  refine zxnewa (atype := .int) hx hb hts (ty := .int) rfl k_1_57 hK 0 rfl (fun _ _ => gu_int) hZ94 hS94 hA (a0 := (2000, .inl (zAr (fun _ => 0)))) (fun _ => rfl) (by decide) (N' := 2000) (by decide) (Nat.le_of_ble_eq_true rfl) (Nat.le_of_ble_eq_true rfl) (Nat.le_of_ble_eq_true rfl) d_16_1_404 (fun q95 H95 hZ95 hS95 => ?_)
  replace hZ95 := zHx.rot hZ95
  replace hZ95 : zHx D ca ad lnM Ki.2 L F B ((q95, .inl (ca 0, 2000, .inl (zAr (fun _ => 0)))) :: (a, .inr (13, rg 81 g94)) :: Y94) A H95 := hZ95
  clear hZ94 hS94
  refine W.widen (k := 47) (n := 160625) (Nat.le_of_ble_eq_true rfl) (Nat.le_of_ble_eq_true rfl) ?_
  obtain ⟨g96, hg96⟩ : ∃ gz : Nat → Value, gz = va_up g94 58 (.ref q95) := ⟨_, rfl⟩
  refine zxputF hx hb hts inW_13 tyX13 tyX13_ok nmX13 hown hK hZ95 hS95 1 rfl rfl (k := 58) (by decide) k_9_229 rfl hnm rfl rfl rfl d_16_1_406 (fun H96 locs96 hZ96 hS96 => ?_)
  rw [← hg96] at hZ96
  obtain ⟨Y96, hY96⟩ : ∃ Yz : va_W, Yz = (q95, .inl (ca 0, 2000, .inl (zAr (fun _ => 0)))) :: Y94 := ⟨_, rfl⟩
  replace hZ96 : zHx D ca ad lnM Ki.2 L F B ((a, .inr (13, rg 81 g96)) :: (q95, .inl (ca 0, 2000, .inl (zAr (fun _ => 0)))) :: Y94) A H96 := zHx.swp hZ96
  rw [← hY96] at hZ96
  replace hZ96 : zHx D ca ad lnM Ki.2 L F B ((a, .inr (13, rg 81 g96)) :: Y96) A H96 := hZ96
  clear hZ95 hS95
  refine lv_aload_n hx hb d_16_1_409 rfl (lv_at hl 0 rfl) ?_
  refine lv_sipush (v := iI 2000) hx hb d_16_1_410 (by decide) ?_
  refine zxnewa (atype := .int) hx hb hts (ty := .int) rfl k_1_57 hK 0 rfl (fun _ _ => gu_int) hZ96 hS96 hA (a0 := (2000, .inl (zAr (fun _ => 0)))) (fun _ => rfl) (by decide) (N' := 2000) (by decide) (Nat.le_of_ble_eq_true rfl) (Nat.le_of_ble_eq_true rfl) (Nat.le_of_ble_eq_true rfl) d_16_1_413 (fun q97 H97 hZ97 hS97 => ?_)
  replace hZ97 := zHx.rot hZ97
  replace hZ97 : zHx D ca ad lnM Ki.2 L F B ((q97, .inl (ca 0, 2000, .inl (zAr (fun _ => 0)))) :: (a, .inr (13, rg 81 g96)) :: Y96) A H97 := hZ97
  clear hZ96 hS96
  refine W.widen (k := 48) (n := 162625) (Nat.le_of_ble_eq_true rfl) (Nat.le_of_ble_eq_true rfl) ?_
  obtain ⟨g98, hg98⟩ : ∃ gz : Nat → Value, gz = va_up g96 59 (.ref q97) := ⟨_, rfl⟩
  refine zxputF hx hb hts inW_13 tyX13 tyX13_ok nmX13 hown hK hZ97 hS97 1 rfl rfl (k := 59) (by decide) k_9_231 rfl hnm rfl rfl rfl d_16_1_415 (fun H98 locs98 hZ98 hS98 => ?_)
  rw [← hg98] at hZ98
  obtain ⟨Y98, hY98⟩ : ∃ Yz : va_W, Yz = (q97, .inl (ca 0, 2000, .inl (zAr (fun _ => 0)))) :: Y96 := ⟨_, rfl⟩
  replace hZ98 : zHx D ca ad lnM Ki.2 L F B ((a, .inr (13, rg 81 g98)) :: (q97, .inl (ca 0, 2000, .inl (zAr (fun _ => 0)))) :: Y96) A H98 := zHx.swp hZ98
  rw [← hY98] at hZ98
  replace hZ98 : zHx D ca ad lnM Ki.2 L F B ((a, .inr (13, rg 81 g98)) :: Y98) A H98 := hZ98
  clear hZ97 hS97
  refine lv_aload_n hx hb d_16_1_418 rfl (lv_at hl 0 rfl) ?_
  refine lv_sipush (v := iI 4000) hx hb d_16_1_419 (by decide) ?_
  refine zxnewa (atype := .int) hx hb hts (ty := .int) rfl k_1_57 hK 0 rfl (fun _ _ => gu_int) hZ98 hS98 hA (a0 := (4000, .inl (zAr (fun _ => 0)))) (fun _ => rfl) (by decide) (N' := 4000) (by decide) (Nat.le_of_ble_eq_true rfl) (Nat.le_of_ble_eq_true rfl) (Nat.le_of_ble_eq_true rfl) d_16_1_422 (fun q99 H99 hZ99 hS99 => ?_)
  replace hZ99 := zHx.rot hZ99
  replace hZ99 : zHx D ca ad lnM Ki.2 L F B ((q99, .inl (ca 0, 4000, .inl (zAr (fun _ => 0)))) :: (a, .inr (13, rg 81 g98)) :: Y98) A H99 := hZ99
  clear hZ98 hS98
  refine W.widen (k := 49) (n := 166625) (Nat.le_of_ble_eq_true rfl) (Nat.le_of_ble_eq_true rfl) ?_
  obtain ⟨g100, hg100⟩ : ∃ gz : Nat → Value, gz = va_up g98 61 (.ref q99) := ⟨_, rfl⟩
  refine zxputF hx hb hts inW_13 tyX13 tyX13_ok nmX13 hown hK hZ99 hS99 1 rfl rfl (k := 61) (by decide) k_9_234 rfl hnm rfl rfl rfl d_16_1_424 (fun H100 locs100 hZ100 hS100 => ?_)
  rw [← hg100] at hZ100
  obtain ⟨Y100, hY100⟩ : ∃ Yz : va_W, Yz = (q99, .inl (ca 0, 4000, .inl (zAr (fun _ => 0)))) :: Y98 := ⟨_, rfl⟩
  replace hZ100 : zHx D ca ad lnM Ki.2 L F B ((a, .inr (13, rg 81 g100)) :: (q99, .inl (ca 0, 4000, .inl (zAr (fun _ => 0)))) :: Y98) A H100 := zHx.swp hZ100
  rw [← hY100] at hZ100
  replace hZ100 : zHx D ca ad lnM Ki.2 L F B ((a, .inr (13, rg 81 g100)) :: Y100) A H100 := hZ100
  clear hZ99 hS99
  refine lv_aload_n hx hb d_16_1_427 rfl (lv_at hl 0 rfl) ?_
  refine lv_sipush (v := iI 4000) hx hb d_16_1_428 (by decide) ?_
  refine zxnewa (atype := .int) hx hb hts (ty := .int) rfl k_1_57 hK 0 rfl (fun _ _ => gu_int) hZ100 hS100 hA (a0 := (4000, .inl (zAr (fun _ => 0)))) (fun _ => rfl) (by decide) (N' := 4000) (by decide) (Nat.le_of_ble_eq_true rfl) (Nat.le_of_ble_eq_true rfl) (Nat.le_of_ble_eq_true rfl) d_16_1_431 (fun q101 H101 hZ101 hS101 => ?_)
  replace hZ101 := zHx.rot hZ101
  replace hZ101 : zHx D ca ad lnM Ki.2 L F B ((q101, .inl (ca 0, 4000, .inl (zAr (fun _ => 0)))) :: (a, .inr (13, rg 81 g100)) :: Y100) A H101 := hZ101
  clear hZ100 hS100
  refine W.widen (k := 50) (n := 170625) (Nat.le_of_ble_eq_true rfl) (Nat.le_of_ble_eq_true rfl) ?_
  obtain ⟨g102, hg102⟩ : ∃ gz : Nat → Value, gz = va_up g100 62 (.ref q101) := ⟨_, rfl⟩
  refine zxputF hx hb hts inW_13 tyX13 tyX13_ok nmX13 hown hK hZ101 hS101 1 rfl rfl (k := 62) (by decide) k_9_236 rfl hnm rfl rfl rfl d_16_1_433 (fun H102 locs102 hZ102 hS102 => ?_)
  rw [← hg102] at hZ102
  obtain ⟨Y102, hY102⟩ : ∃ Yz : va_W, Yz = (q101, .inl (ca 0, 4000, .inl (zAr (fun _ => 0)))) :: Y100 := ⟨_, rfl⟩
  replace hZ102 : zHx D ca ad lnM Ki.2 L F B ((a, .inr (13, rg 81 g102)) :: (q101, .inl (ca 0, 4000, .inl (zAr (fun _ => 0)))) :: Y100) A H102 := zHx.swp hZ102
  rw [← hY102] at hZ102
  replace hZ102 : zHx D ca ad lnM Ki.2 L F B ((a, .inr (13, rg 81 g102)) :: Y102) A H102 := hZ102
  clear hZ101 hS101
  refine lv_aload_n hx hb d_16_1_436 rfl (lv_at hl 0 rfl) ?_
  refine lv_sipush (v := iI 4000) hx hb d_16_1_437 (by decide) ?_
  refine zxnewa (atype := .int) hx hb hts (ty := .int) rfl k_1_57 hK 0 rfl (fun _ _ => gu_int) hZ102 hS102 hA (a0 := (4000, .inl (zAr (fun _ => 0)))) (fun _ => rfl) (by decide) (N' := 4000) (by decide) (Nat.le_of_ble_eq_true rfl) (Nat.le_of_ble_eq_true rfl) (Nat.le_of_ble_eq_true rfl) d_16_1_440 (fun q103 H103 hZ103 hS103 => ?_)
  replace hZ103 := zHx.rot hZ103
  replace hZ103 : zHx D ca ad lnM Ki.2 L F B ((q103, .inl (ca 0, 4000, .inl (zAr (fun _ => 0)))) :: (a, .inr (13, rg 81 g102)) :: Y102) A H103 := hZ103
  clear hZ102 hS102
  refine W.widen (k := 51) (n := 174625) (Nat.le_of_ble_eq_true rfl) (Nat.le_of_ble_eq_true rfl) ?_
  obtain ⟨g104, hg104⟩ : ∃ gz : Nat → Value, gz = va_up g102 63 (.ref q103) := ⟨_, rfl⟩
  refine zxputF hx hb hts inW_13 tyX13 tyX13_ok nmX13 hown hK hZ103 hS103 1 rfl rfl (k := 63) (by decide) k_9_238 rfl hnm rfl rfl rfl d_16_1_442 (fun H104 locs104 hZ104 hS104 => ?_)
  rw [← hg104] at hZ104
  obtain ⟨Y104, hY104⟩ : ∃ Yz : va_W, Yz = (q103, .inl (ca 0, 4000, .inl (zAr (fun _ => 0)))) :: Y102 := ⟨_, rfl⟩
  replace hZ104 : zHx D ca ad lnM Ki.2 L F B ((a, .inr (13, rg 81 g104)) :: (q103, .inl (ca 0, 4000, .inl (zAr (fun _ => 0)))) :: Y102) A H104 := zHx.swp hZ104
  rw [← hY104] at hZ104
  replace hZ104 : zHx D ca ad lnM Ki.2 L F B ((a, .inr (13, rg 81 g104)) :: Y104) A H104 := hZ104
  clear hZ103 hS103
  refine lv_aload_n hx hb d_16_1_445 rfl (lv_at hl 0 rfl) ?_
  refine lv_sipush (v := iI 4000) hx hb d_16_1_446 (by decide) ?_
  refine zxnewa (atype := .int) hx hb hts (ty := .int) rfl k_1_57 hK 0 rfl (fun _ _ => gu_int) hZ104 hS104 hA (a0 := (4000, .inl (zAr (fun _ => 0)))) (fun _ => rfl) (by decide) (N' := 4000) (by decide) (Nat.le_of_ble_eq_true rfl) (Nat.le_of_ble_eq_true rfl) (Nat.le_of_ble_eq_true rfl) d_16_1_449 (fun q105 H105 hZ105 hS105 => ?_)
  replace hZ105 := zHx.rot hZ105
  replace hZ105 : zHx D ca ad lnM Ki.2 L F B ((q105, .inl (ca 0, 4000, .inl (zAr (fun _ => 0)))) :: (a, .inr (13, rg 81 g104)) :: Y104) A H105 := hZ105
  clear hZ104 hS104
  refine W.widen (k := 52) (n := 178625) (Nat.le_of_ble_eq_true rfl) (Nat.le_of_ble_eq_true rfl) ?_
  obtain ⟨g106, hg106⟩ : ∃ gz : Nat → Value, gz = va_up g104 64 (.ref q105) := ⟨_, rfl⟩
  refine zxputF hx hb hts inW_13 tyX13 tyX13_ok nmX13 hown hK hZ105 hS105 1 rfl rfl (k := 64) (by decide) k_10_0 rfl hnm rfl rfl rfl d_16_1_451 (fun H106 locs106 hZ106 hS106 => ?_)
  rw [← hg106] at hZ106
  obtain ⟨Y106, hY106⟩ : ∃ Yz : va_W, Yz = (q105, .inl (ca 0, 4000, .inl (zAr (fun _ => 0)))) :: Y104 := ⟨_, rfl⟩
  replace hZ106 : zHx D ca ad lnM Ki.2 L F B ((a, .inr (13, rg 81 g106)) :: (q105, .inl (ca 0, 4000, .inl (zAr (fun _ => 0)))) :: Y104) A H106 := zHx.swp hZ106
  rw [← hY106] at hZ106
  replace hZ106 : zHx D ca ad lnM Ki.2 L F B ((a, .inr (13, rg 81 g106)) :: Y106) A H106 := hZ106
  clear hZ105 hS105
  refine lv_aload_n hx hb d_16_1_454 rfl (lv_at hl 0 rfl) ?_
  refine lv_sipush (v := iI 1000) hx hb d_16_1_455 (by decide) ?_
  refine zxnewa (atype := .int) hx hb hts (ty := .int) rfl k_1_57 hK 0 rfl (fun _ _ => gu_int) hZ106 hS106 hA (a0 := (1000, .inl (zAr (fun _ => 0)))) (fun _ => rfl) (by decide) (N' := 1000) (by decide) (Nat.le_of_ble_eq_true rfl) (Nat.le_of_ble_eq_true rfl) (Nat.le_of_ble_eq_true rfl) d_16_1_458 (fun q107 H107 hZ107 hS107 => ?_)
  replace hZ107 := zHx.rot hZ107
  replace hZ107 : zHx D ca ad lnM Ki.2 L F B ((q107, .inl (ca 0, 1000, .inl (zAr (fun _ => 0)))) :: (a, .inr (13, rg 81 g106)) :: Y106) A H107 := hZ107
  clear hZ106 hS106
  refine W.widen (k := 53) (n := 179625) (Nat.le_of_ble_eq_true rfl) (Nat.le_of_ble_eq_true rfl) ?_
  obtain ⟨g108, hg108⟩ : ∃ gz : Nat → Value, gz = va_up g106 70 (.ref q107) := ⟨_, rfl⟩
  refine zxputF hx hb hts inW_13 tyX13 tyX13_ok nmX13 hown hK hZ107 hS107 1 rfl rfl (k := 70) (by decide) k_10_7 rfl hnm rfl rfl rfl d_16_1_460 (fun H108 locs108 hZ108 hS108 => ?_)
  rw [← hg108] at hZ108
  obtain ⟨Y108, hY108⟩ : ∃ Yz : va_W, Yz = (q107, .inl (ca 0, 1000, .inl (zAr (fun _ => 0)))) :: Y106 := ⟨_, rfl⟩
  replace hZ108 : zHx D ca ad lnM Ki.2 L F B ((a, .inr (13, rg 81 g108)) :: (q107, .inl (ca 0, 1000, .inl (zAr (fun _ => 0)))) :: Y106) A H108 := zHx.swp hZ108
  rw [← hY108] at hZ108
  replace hZ108 : zHx D ca ad lnM Ki.2 L F B ((a, .inr (13, rg 81 g108)) :: Y108) A H108 := hZ108
  clear hZ107 hS107
  refine lv_aload_n hx hb d_16_1_463 rfl (lv_at hl 0 rfl) ?_
  refine lv_sipush (v := iI 1000) hx hb d_16_1_464 (by decide) ?_
  refine zxnewa (atype := .int) hx hb hts (ty := .int) rfl k_1_57 hK 0 rfl (fun _ _ => gu_int) hZ108 hS108 hA (a0 := (1000, .inl (zAr (fun _ => 0)))) (fun _ => rfl) (by decide) (N' := 1000) (by decide) (Nat.le_of_ble_eq_true rfl) (Nat.le_of_ble_eq_true rfl) (Nat.le_of_ble_eq_true rfl) d_16_1_467 (fun q109 H109 hZ109 hS109 => ?_)
  replace hZ109 := zHx.rot hZ109
  replace hZ109 : zHx D ca ad lnM Ki.2 L F B ((q109, .inl (ca 0, 1000, .inl (zAr (fun _ => 0)))) :: (a, .inr (13, rg 81 g108)) :: Y108) A H109 := hZ109
  clear hZ108 hS108
  refine W.widen (k := 54) (n := 180625) (Nat.le_of_ble_eq_true rfl) (Nat.le_of_ble_eq_true rfl) ?_
  obtain ⟨g110, hg110⟩ : ∃ gz : Nat → Value, gz = va_up g108 71 (.ref q109) := ⟨_, rfl⟩
  refine zxputF hx hb hts inW_13 tyX13 tyX13_ok nmX13 hown hK hZ109 hS109 1 rfl rfl (k := 71) (by decide) k_10_9 rfl hnm rfl rfl rfl d_16_1_469 (fun H110 locs110 hZ110 hS110 => ?_)
  rw [← hg110] at hZ110
  obtain ⟨Y110, hY110⟩ : ∃ Yz : va_W, Yz = (q109, .inl (ca 0, 1000, .inl (zAr (fun _ => 0)))) :: Y108 := ⟨_, rfl⟩
  replace hZ110 : zHx D ca ad lnM Ki.2 L F B ((a, .inr (13, rg 81 g110)) :: (q109, .inl (ca 0, 1000, .inl (zAr (fun _ => 0)))) :: Y108) A H110 := zHx.swp hZ110
  rw [← hY110] at hZ110
  replace hZ110 : zHx D ca ad lnM Ki.2 L F B ((a, .inr (13, rg 81 g110)) :: Y110) A H110 := hZ110
  clear hZ109 hS109
  refine lv_aload_n hx hb d_16_1_472 rfl (lv_at hl 0 rfl) ?_
  refine lv_sipush (v := iI 800) hx hb d_16_1_473 (by decide) ?_
  refine zxnewa (atype := .long) hx hb hts (ty := .long) rfl k_1_105 hK 1 rfl (fun _ _ => gu_long) hZ110 hS110 hA (a0 := (800, .inr (.inl (zLr (fun _ => 0))))) (fun _ => rfl) (by decide) (N' := 800) (by decide) (Nat.le_of_ble_eq_true rfl) (Nat.le_of_ble_eq_true rfl) (Nat.le_of_ble_eq_true rfl) d_16_1_476 (fun q111 H111 hZ111 hS111 => ?_)
  replace hZ111 := zHx.rot hZ111
  replace hZ111 : zHx D ca ad lnM Ki.2 L F B ((q111, .inl (ca 1, 800, .inr (.inl (zLr (fun _ => 0))))) :: (a, .inr (13, rg 81 g110)) :: Y110) A H111 := hZ111
  clear hZ110 hS110
  refine W.widen (k := 55) (n := 181425) (Nat.le_of_ble_eq_true rfl) (Nat.le_of_ble_eq_true rfl) ?_
  obtain ⟨g112, hg112⟩ : ∃ gz : Nat → Value, gz = va_up g110 73 (.ref q111) := ⟨_, rfl⟩
  refine zxputF hx hb hts inW_13 tyX13 tyX13_ok nmX13 hown hK hZ111 hS111 1 rfl rfl (k := 73) (by decide) k_10_12 rfl hnm rfl rfl rfl d_16_1_478 (fun H112 locs112 hZ112 hS112 => ?_)
  rw [← hg112] at hZ112
  obtain ⟨Y112, hY112⟩ : ∃ Yz : va_W, Yz = (q111, .inl (ca 1, 800, .inr (.inl (zLr (fun _ => 0))))) :: Y110 := ⟨_, rfl⟩
  replace hZ112 : zHx D ca ad lnM Ki.2 L F B ((a, .inr (13, rg 81 g112)) :: (q111, .inl (ca 1, 800, .inr (.inl (zLr (fun _ => 0))))) :: Y110) A H112 := zHx.swp hZ112
  rw [← hY112] at hZ112
  replace hZ112 : zHx D ca ad lnM Ki.2 L F B ((a, .inr (13, rg 81 g112)) :: Y112) A H112 := hZ112
  clear hZ111 hS111
  refine lv_aload_n hx hb d_16_1_481 rfl (lv_at hl 0 rfl) ?_
  refine lv_sipush (v := iI 800) hx hb d_16_1_482 (by decide) ?_
  refine zxnewa (atype := .long) hx hb hts (ty := .long) rfl k_1_105 hK 1 rfl (fun _ _ => gu_long) hZ112 hS112 hA (a0 := (800, .inr (.inl (zLr (fun _ => 0))))) (fun _ => rfl) (by decide) (N' := 800) (by decide) (Nat.le_of_ble_eq_true rfl) (Nat.le_of_ble_eq_true rfl) (Nat.le_of_ble_eq_true rfl) d_16_1_485 (fun q113 H113 hZ113 hS113 => ?_)
  replace hZ113 := zHx.rot hZ113
  replace hZ113 : zHx D ca ad lnM Ki.2 L F B ((q113, .inl (ca 1, 800, .inr (.inl (zLr (fun _ => 0))))) :: (a, .inr (13, rg 81 g112)) :: Y112) A H113 := hZ113
  clear hZ112 hS112
  refine W.widen (k := 56) (n := 182225) (Nat.le_of_ble_eq_true rfl) (Nat.le_of_ble_eq_true rfl) ?_
  obtain ⟨g114, hg114⟩ : ∃ gz : Nat → Value, gz = va_up g112 74 (.ref q113) := ⟨_, rfl⟩
  refine zxputF hx hb hts inW_13 tyX13 tyX13_ok nmX13 hown hK hZ113 hS113 1 rfl rfl (k := 74) (by decide) k_10_14 rfl hnm rfl rfl rfl d_16_1_487 (fun H114 locs114 hZ114 hS114 => ?_)
  rw [← hg114] at hZ114
  obtain ⟨Y114, hY114⟩ : ∃ Yz : va_W, Yz = (q113, .inl (ca 1, 800, .inr (.inl (zLr (fun _ => 0))))) :: Y112 := ⟨_, rfl⟩
  replace hZ114 : zHx D ca ad lnM Ki.2 L F B ((a, .inr (13, rg 81 g114)) :: (q113, .inl (ca 1, 800, .inr (.inl (zLr (fun _ => 0))))) :: Y112) A H114 := zHx.swp hZ114
  rw [← hY114] at hZ114
  replace hZ114 : zHx D ca ad lnM Ki.2 L F B ((a, .inr (13, rg 81 g114)) :: Y114) A H114 := hZ114
  clear hZ113 hS113
  refine lv_aload_n hx hb d_16_1_490 rfl (lv_at hl 0 rfl) ?_
  refine lv_sipush (v := iI 3200) hx hb d_16_1_491 (by decide) ?_
  refine zxnewa (atype := .int) hx hb hts (ty := .int) rfl k_1_57 hK 0 rfl (fun _ _ => gu_int) hZ114 hS114 hA (a0 := (3200, .inl (zAr (fun _ => 0)))) (fun _ => rfl) (by decide) (N' := 3200) (by decide) (Nat.le_of_ble_eq_true rfl) (Nat.le_of_ble_eq_true rfl) (Nat.le_of_ble_eq_true rfl) d_16_1_494 (fun q115 H115 hZ115 hS115 => ?_)
  replace hZ115 := zHx.rot hZ115
  replace hZ115 : zHx D ca ad lnM Ki.2 L F B ((q115, .inl (ca 0, 3200, .inl (zAr (fun _ => 0)))) :: (a, .inr (13, rg 81 g114)) :: Y114) A H115 := hZ115
  clear hZ114 hS114
  refine W.widen (k := 57) (n := 185425) (Nat.le_of_ble_eq_true rfl) (Nat.le_of_ble_eq_true rfl) ?_
  obtain ⟨g116, hg116⟩ : ∃ gz : Nat → Value, gz = va_up g114 75 (.ref q115) := ⟨_, rfl⟩
  refine zxputF hx hb hts inW_13 tyX13 tyX13_ok nmX13 hown hK hZ115 hS115 1 rfl rfl (k := 75) (by decide) k_10_16 rfl hnm rfl rfl rfl d_16_1_496 (fun H116 locs116 hZ116 hS116 => ?_)
  rw [← hg116] at hZ116
  obtain ⟨Y116, hY116⟩ : ∃ Yz : va_W, Yz = (q115, .inl (ca 0, 3200, .inl (zAr (fun _ => 0)))) :: Y114 := ⟨_, rfl⟩
  replace hZ116 : zHx D ca ad lnM Ki.2 L F B ((a, .inr (13, rg 81 g116)) :: (q115, .inl (ca 0, 3200, .inl (zAr (fun _ => 0)))) :: Y114) A H116 := zHx.swp hZ116
  rw [← hY116] at hZ116
  replace hZ116 : zHx D ca ad lnM Ki.2 L F B ((a, .inr (13, rg 81 g116)) :: Y116) A H116 := hZ116
  clear hZ115 hS115
  refine lv_aload_n hx hb d_16_1_499 rfl (lv_at hl 0 rfl) ?_
  refine lv_sipush (v := iI 300) hx hb d_16_1_500 (by decide) ?_
  refine zxnewa (atype := .int) hx hb hts (ty := .int) rfl k_1_57 hK 0 rfl (fun _ _ => gu_int) hZ116 hS116 hA (a0 := (300, .inl (zAr (fun _ => 0)))) (fun _ => rfl) (by decide) (N' := 300) (by decide) (Nat.le_of_ble_eq_true rfl) (Nat.le_of_ble_eq_true rfl) (Nat.le_of_ble_eq_true rfl) d_16_1_503 (fun q117 H117 hZ117 hS117 => ?_)
  replace hZ117 := zHx.rot hZ117
  replace hZ117 : zHx D ca ad lnM Ki.2 L F B ((q117, .inl (ca 0, 300, .inl (zAr (fun _ => 0)))) :: (a, .inr (13, rg 81 g116)) :: Y116) A H117 := hZ117
  clear hZ116 hS116
  refine W.widen (k := 58) (n := 185725) (Nat.le_of_ble_eq_true rfl) (Nat.le_of_ble_eq_true rfl) ?_
  obtain ⟨g118, hg118⟩ : ∃ gz : Nat → Value, gz = va_up g116 77 (.ref q117) := ⟨_, rfl⟩
  refine zxputF hx hb hts inW_13 tyX13 tyX13_ok nmX13 hown hK hZ117 hS117 1 rfl rfl (k := 77) (by decide) k_10_19 rfl hnm rfl rfl rfl d_16_1_505 (fun H118 locs118 hZ118 hS118 => ?_)
  rw [← hg118] at hZ118
  obtain ⟨Y118, hY118⟩ : ∃ Yz : va_W, Yz = (q117, .inl (ca 0, 300, .inl (zAr (fun _ => 0)))) :: Y116 := ⟨_, rfl⟩
  replace hZ118 : zHx D ca ad lnM Ki.2 L F B ((a, .inr (13, rg 81 g118)) :: (q117, .inl (ca 0, 300, .inl (zAr (fun _ => 0)))) :: Y116) A H118 := zHx.swp hZ118
  rw [← hY118] at hZ118
  replace hZ118 : zHx D ca ad lnM Ki.2 L F B ((a, .inr (13, rg 81 g118)) :: Y118) A H118 := hZ118
  clear hZ117 hS117
  refine lv_aload_n hx hb d_16_1_508 rfl (lv_at hl 0 rfl) ?_
  refine lv_sipush (v := iI 300) hx hb d_16_1_509 (by decide) ?_
  refine zxnewa (atype := .int) hx hb hts (ty := .int) rfl k_1_57 hK 0 rfl (fun _ _ => gu_int) hZ118 hS118 hA (a0 := (300, .inl (zAr (fun _ => 0)))) (fun _ => rfl) (by decide) (N' := 300) (by decide) (Nat.le_of_ble_eq_true rfl) (Nat.le_of_ble_eq_true rfl) (Nat.le_of_ble_eq_true rfl) d_16_1_512 (fun q119 H119 hZ119 hS119 => ?_)
  replace hZ119 := zHx.rot hZ119
  replace hZ119 : zHx D ca ad lnM Ki.2 L F B ((q119, .inl (ca 0, 300, .inl (zAr (fun _ => 0)))) :: (a, .inr (13, rg 81 g118)) :: Y118) A H119 := hZ119
  clear hZ118 hS118
  refine W.widen (k := 59) (n := 186025) (Nat.le_of_ble_eq_true rfl) (Nat.le_of_ble_eq_true rfl) ?_
  obtain ⟨g120, hg120⟩ : ∃ gz : Nat → Value, gz = va_up g118 78 (.ref q119) := ⟨_, rfl⟩
  refine zxputF hx hb hts inW_13 tyX13 tyX13_ok nmX13 hown hK hZ119 hS119 1 rfl rfl (k := 78) (by decide) k_10_21 rfl hnm rfl rfl rfl d_16_1_514 (fun H120 locs120 hZ120 hS120 => ?_)
  rw [← hg120] at hZ120
  obtain ⟨Y120, hY120⟩ : ∃ Yz : va_W, Yz = (q119, .inl (ca 0, 300, .inl (zAr (fun _ => 0)))) :: Y118 := ⟨_, rfl⟩
  replace hZ120 : zHx D ca ad lnM Ki.2 L F B ((a, .inr (13, rg 81 g120)) :: (q119, .inl (ca 0, 300, .inl (zAr (fun _ => 0)))) :: Y118) A H120 := zHx.swp hZ120
  rw [← hY120] at hZ120
  replace hZ120 : zHx D ca ad lnM Ki.2 L F B ((a, .inr (13, rg 81 g120)) :: Y120) A H120 := hZ120
  clear hZ119 hS119
  refine lv_aload_n hx hb d_16_1_517 rfl (lv_at hl 0 rfl) ?_
  refine lv_sipush (v := iI 300) hx hb d_16_1_518 (by decide) ?_
  refine zxnewa (atype := .int) hx hb hts (ty := .int) rfl k_1_57 hK 0 rfl (fun _ _ => gu_int) hZ120 hS120 hA (a0 := (300, .inl (zAr (fun _ => 0)))) (fun _ => rfl) (by decide) (N' := 300) (by decide) (Nat.le_of_ble_eq_true rfl) (Nat.le_of_ble_eq_true rfl) (Nat.le_of_ble_eq_true rfl) d_16_1_521 (fun q121 H121 hZ121 hS121 => ?_)
  replace hZ121 := zHx.rot hZ121
  replace hZ121 : zHx D ca ad lnM Ki.2 L F B ((q121, .inl (ca 0, 300, .inl (zAr (fun _ => 0)))) :: (a, .inr (13, rg 81 g120)) :: Y120) A H121 := hZ121
  clear hZ120 hS120
  refine W.widen (k := 60) (n := 186325) (Nat.le_of_ble_eq_true rfl) (Nat.le_of_ble_eq_true rfl) ?_
  obtain ⟨g122, hg122⟩ : ∃ gz : Nat → Value, gz = va_up g120 79 (.ref q121) := ⟨_, rfl⟩
  refine zxputF hx hb hts inW_13 tyX13 tyX13_ok nmX13 hown hK hZ121 hS121 1 rfl rfl (k := 79) (by decide) k_10_23 rfl hnm rfl rfl rfl d_16_1_523 (fun H122 locs122 hZ122 hS122 => ?_)
  rw [← hg122] at hZ122
  obtain ⟨Y122, hY122⟩ : ∃ Yz : va_W, Yz = (q121, .inl (ca 0, 300, .inl (zAr (fun _ => 0)))) :: Y120 := ⟨_, rfl⟩
  replace hZ122 : zHx D ca ad lnM Ki.2 L F B ((a, .inr (13, rg 81 g122)) :: (q121, .inl (ca 0, 300, .inl (zAr (fun _ => 0)))) :: Y120) A H122 := zHx.swp hZ122
  rw [← hY122] at hZ122
  replace hZ122 : zHx D ca ad lnM Ki.2 L F B ((a, .inr (13, rg 81 g122)) :: Y122) A H122 := hZ122
  clear hZ121 hS121
  refine lv_aload_n hx hb d_16_1_526 rfl (lv_at hl 0 rfl) ?_
  refine lv_sipush (v := iI 300) hx hb d_16_1_527 (by decide) ?_
  refine zxnewa (atype := .int) hx hb hts (ty := .int) rfl k_1_57 hK 0 rfl (fun _ _ => gu_int) hZ122 hS122 hA (a0 := (300, .inl (zAr (fun _ => 0)))) (fun _ => rfl) (by decide) (N' := 300) (by decide) (Nat.le_of_ble_eq_true rfl) (Nat.le_of_ble_eq_true rfl) (Nat.le_of_ble_eq_true rfl) d_16_1_530 (fun q123 H123 hZ123 hS123 => ?_)
  replace hZ123 := zHx.rot hZ123
  replace hZ123 : zHx D ca ad lnM Ki.2 L F B ((q123, .inl (ca 0, 300, .inl (zAr (fun _ => 0)))) :: (a, .inr (13, rg 81 g122)) :: Y122) A H123 := hZ123
  clear hZ122 hS122
  refine W.widen (k := 61) (n := 186625) (Nat.le_of_ble_eq_true rfl) (Nat.le_of_ble_eq_true rfl) ?_
  obtain ⟨g124, hg124⟩ : ∃ gz : Nat → Value, gz = va_up g122 80 (.ref q123) := ⟨_, rfl⟩
  refine zxputF hx hb hts inW_13 tyX13 tyX13_ok nmX13 hown hK hZ123 hS123 1 rfl rfl (k := 80) (by decide) k_10_25 rfl hnm rfl rfl rfl d_16_1_532 (fun H124 locs124 hZ124 hS124 => ?_)
  rw [← hg124] at hZ124
  obtain ⟨Y124, hY124⟩ : ∃ Yz : va_W, Yz = (q123, .inl (ca 0, 300, .inl (zAr (fun _ => 0)))) :: Y122 := ⟨_, rfl⟩
  replace hZ124 : zHx D ca ad lnM Ki.2 L F B ((a, .inr (13, rg 81 g124)) :: (q123, .inl (ca 0, 300, .inl (zAr (fun _ => 0)))) :: Y122) A H124 := zHx.swp hZ124
  rw [← hY124] at hZ124
  replace hZ124 : zHx D ca ad lnM Ki.2 L F B ((a, .inr (13, rg 81 g124)) :: Y124) A H124 := hZ124
  clear hZ123 hS123
  subst hg2
  subst hY2
  subst hg4
  subst hY4
  subst hg6
  subst hY6
  subst hg8
  subst hY8
  subst hg10
  subst hY10
  subst hg12
  subst hY12
  subst hg14
  subst hY14
  subst hg16
  subst hY16
  subst hg18
  subst hY18
  subst hg20
  subst hY20
  subst hg22
  subst hY22
  subst hg24
  subst hY24
  subst hg26
  subst hY26
  subst hg28
  subst hY28
  subst hg30
  subst hY30
  subst hg33
  subst hY33
  subst hg35
  subst hY35
  subst hg37
  subst hY37
  subst hg39
  subst hY39
  subst hg41
  subst hY41
  subst hg43
  subst hY43
  subst hg45
  subst hY45
  subst hg47
  subst hY47
  subst hg49
  subst hY49
  subst hg51
  subst hY51
  subst hg53
  subst hY53
  subst hg55
  subst hY55
  subst hg57
  subst hY57
  subst hg59
  subst hY59
  subst hg61
  subst hY61
  subst hg63
  subst hY63
  subst hg66
  subst hY66
  subst hg68
  subst hY68
  subst hg70
  subst hY70
  subst hg72
  subst hY72
  subst hg74
  subst hY74
  subst hg76
  subst hY76
  subst hg78
  subst hY78
  subst hg80
  subst hY80
  subst hg82
  subst hY82
  subst hg84
  subst hY84
  subst hg86
  subst hY86
  subst hg88
  subst hY88
  subst hg90
  subst hY90
  subst hg92
  subst hY92
  subst hg94
  subst hY94
  subst hg96
  subst hY96
  subst hg98
  subst hY98
  subst hg100
  subst hY100
  subst hg102
  subst hY102
  subst hg104
  subst hY104
  subst hg106
  subst hY106
  subst hg108
  subst hY108
  subst hg110
  subst hY110
  subst hg112
  subst hY112
  subst hg114
  subst hY114
  subst hg116
  subst hY116
  subst hg118
  subst hY118
  subst hg120
  subst hY120
  subst hg122
  subst hY122
  subst hg124
  subst hY124
  replace hZ124 : zHx D ca ad lnM Ki.2 L F B [(a, .inr (13, rg 81 (va_up (va_up (va_up (va_up (va_up (va_up (va_up (va_up (va_up (va_up (va_up (va_up (va_up (va_up (va_up (va_up (va_up (va_up (va_up (va_up (va_up (va_up (va_up (va_up (va_up (va_up (va_up (va_up (va_up (va_up (va_up (va_up (va_up (va_up (va_up (va_up (va_up (va_up (va_up (va_up (va_up (va_up (va_up (va_up (va_up (va_up (va_up (va_up (va_up (va_up (va_up (va_up (va_up (va_up (va_up (va_up (va_up (va_up (va_up (va_up (va_up (fun j => defaultValue (tyX13 j)) 8 (.ref q1)) 9 (.ref q3)) 10 (.ref q5)) 11 (.ref q7)) 12 (.ref q9)) 13 (.ref q11)) 14 (.ref q13)) 15 (.ref q15)) 16 (.ref q17)) 17 (.ref q19)) 18 (.ref q21)) 19 (.ref q23)) 20 (.ref q25)) 21 (.ref q27)) 22 (.ref q29)) 23 (.ref q31)) 24 (.ref q34)) 25 (.ref q36)) 26 (.ref q38)) 27 (.ref q40)) 28 (.ref q42)) 29 (.ref q44)) 30 (.ref q46)) 31 (.ref q48)) 32 (.ref q50)) 33 (.ref q52)) 34 (.ref q54)) 35 (.ref q56)) 36 (.ref q58)) 37 (.ref q60)) 38 (.ref q62)) 39 (.ref q65)) 40 (.ref q67)) 41 (.ref q69)) 42 (.ref q71)) 43 (.ref q73)) 44 (.ref q75)) 45 (.ref q77)) 46 (.ref q79)) 49 (.ref q81)) 50 (.ref q83)) 51 (.ref q85)) 52 (.ref q87)) 55 (.ref q89)) 56 (.ref q91)) 57 (.ref q93)) 58 (.ref q95)) 59 (.ref q97)) 61 (.ref q99)) 62 (.ref q101)) 63 (.ref q103)) 64 (.ref q105)) 70 (.ref q107)) 71 (.ref q109)) 73 (.ref q111)) 74 (.ref q113)) 75 (.ref q115)) 77 (.ref q117)) 78 (.ref q119)) 79 (.ref q121)) 80 (.ref q123)))), (q123, .inl (ca 0, 300, .inl (zAr (fun _ => 0)))), (q121, .inl (ca 0, 300, .inl (zAr (fun _ => 0)))), (q119, .inl (ca 0, 300, .inl (zAr (fun _ => 0)))), (q117, .inl (ca 0, 300, .inl (zAr (fun _ => 0)))), (q115, .inl (ca 0, 3200, .inl (zAr (fun _ => 0)))), (q113, .inl (ca 1, 800, .inr (.inl (zLr (fun _ => 0))))), (q111, .inl (ca 1, 800, .inr (.inl (zLr (fun _ => 0))))), (q109, .inl (ca 0, 1000, .inl (zAr (fun _ => 0)))), (q107, .inl (ca 0, 1000, .inl (zAr (fun _ => 0)))), (q105, .inl (ca 0, 4000, .inl (zAr (fun _ => 0)))), (q103, .inl (ca 0, 4000, .inl (zAr (fun _ => 0)))), (q101, .inl (ca 0, 4000, .inl (zAr (fun _ => 0)))), (q99, .inl (ca 0, 4000, .inl (zAr (fun _ => 0)))), (q97, .inl (ca 0, 2000, .inl (zAr (fun _ => 0)))), (q95, .inl (ca 0, 2000, .inl (zAr (fun _ => 0)))), (q93, .inl (ca 0, 2000, .inl (zAr (fun _ => 0)))), (q91, .inl (ca 0, 2000, .inl (zAr (fun _ => 0)))), (q89, .inl (ca 0, 2000, .inl (zAr (fun _ => 0)))), (q87, .inl (ca 1, 100, .inr (.inl (zLr (fun _ => 0))))), (q85, .inl (ca 0, 100, .inl (zAr (fun _ => 0)))), (q83, .inl (ca 0, 100, .inl (zAr (fun _ => 0)))), (q81, .inl (ca 0, 100, .inl (zAr (fun _ => 0)))), (q79, .inl (ca 0, 100, .inl (zAr (fun _ => 0)))), (q77, .inl (ca 0, 3200, .inl (zAr (fun _ => 0)))), (q75, .inl (ca 1, 3200, .inr (.inl (zLr (fun _ => 0))))), (q73, .inl (ca 1, 3200, .inr (.inl (zLr (fun _ => 0))))), (q71, .inl (ca 0, 101, .inl (zAr (fun _ => 0)))), (q69, .inl (ca 0, 3200, .inl (zAr (fun _ => 0)))), (q67, .inl (ca 0, 3200, .inl (zAr (fun _ => 0)))), (q65, .inl (ca 0, 3200, .inl (zAr (fun _ => 0)))), (q62, .inl (ca 0, 3200, .inl (zAr (fun _ => 0)))), (q60, .inl (ca 0, 3200, .inl (zAr (fun _ => 0)))), (q58, .inl (ca 0, 3200, .inl (zAr (fun _ => 0)))), (q56, .inl (ca 0, 3200, .inl (zAr (fun _ => 0)))), (q54, .inl (ca 0, 3200, .inl (zAr (fun _ => 0)))), (q52, .inl (ca 1, 3200, .inr (.inl (zLr (fun _ => 0))))), (q50, .inl (ca 1, 3200, .inr (.inl (zLr (fun _ => 0))))), (q48, .inl (ca 0, 3200, .inl (zAr (fun _ => 0)))), (q46, .inl (ca 0, 3200, .inl (zAr (fun _ => 0)))), (q44, .inl (ca 0, 24000, .inl (zAr (fun _ => 0)))), (q42, .inl (ca 0, 24000, .inl (zAr (fun _ => 0)))), (q40, .inl (ca 3, 4000, .inl (zAr (fun _ => 0)))), (q38, .inl (ca 0, 4000, .inl (zAr (fun _ => 0)))), (q36, .inl (ca 0, 4000, .inl (zAr (fun _ => 0)))), (q34, .inl (ca 0, 4000, .inl (zAr (fun _ => 0)))), (q31, .inl (ca 0, 4000, .inl (zAr (fun _ => 0)))), (q29, .inl (ca 0, 4000, .inl (zAr (fun _ => 0)))), (q27, .inl (ca 0, 4000, .inl (zAr (fun _ => 0)))), (q25, .inl (ca 0, 4000, .inl (zAr (fun _ => 0)))), (q23, .inl (ca 0, 4000, .inl (zAr (fun _ => 0)))), (q21, .inl (ca 0, 4000, .inl (zAr (fun _ => 0)))), (q19, .inl (ca 1, 4000, .inr (.inl (zLr (fun _ => 0))))), (q17, .inl (ca 1, 4000, .inr (.inl (zLr (fun _ => 0))))), (q15, .inl (ca 1, 4000, .inr (.inl (zLr (fun _ => 0))))), (q13, .inl (ca 1, 4000, .inr (.inl (zLr (fun _ => 0))))), (q11, .inl (ca 0, 4, .inl (zAr (fun _ => 0)))), (q9, .inl (ca 0, 4, .inl (zAr (fun _ => 0)))), (q7, .inl (ca 0, 4, .inl (zAr (fun _ => 0)))), (q5, .inl (ca 1, 4, .inr (.inl (zLr (fun _ => 0))))), (q3, .inl (ca 0, 4, .inl (zAr (fun _ => 0)))), (q1, .inl (ca 0, 4, .inl (zAr (fun _ => 0))))] A H124 := hZ124
  obtain ⟨g126, hf⟩ := gif hf
  obtain ⟨ad125, L125, hZ125, hG125, hq125⟩ : ∃ ad' L', zH D ca ad' lnM (zinN Ki.2 13) L' (zinF F 13 (Ki.2 13) [0, 0, 0, 0, 0, 0, 0, 0, 0, 0, 0, 0, 0, 0, 0, 0, 0, 0, 0, 0, 0, 0, 0, 0, 0, 0, 0, 0, 0, 0, 0, 0, 0, 0, 0, 0, 0, 0, 0, 0, 0, 0, 0, 0, 0, 0, 0, 0, 0, 0, 0, 0, 0, 0, 0, 0, 0, 0, 0, 0, 0, 0, 0, 0, 0, 0, 0, 0, 0, 0, 0, 0, 0, 0, 0, 0, 0, 0, 0, 0, 0]) (zinB B 13 (Ki.2 13) (fun _ _ => 0)) A H124 ∧ zG ad Ki.2 ad' (zinN Ki.2 13) ∧ ad' 13 (Ki.2 13) 0 = a := ⟨_, _, ztake2 (c := 13) (n := 81) (l := [(0, a), (81, q123), (80, q121), (79, q119), (78, q117), (76, q115), (75, q113), (74, q111), (72, q109), (71, q107), (65, q105), (64, q103), (63, q101), (62, q99), (60, q97), (59, q95), (58, q93), (57, q91), (56, q89), (53, q87), (52, q85), (51, q83), (50, q81), (47, q79), (46, q77), (45, q75), (44, q73), (43, q71), (42, q69), (41, q67), (40, q65), (39, q62), (38, q60), (37, q58), (36, q56), (35, q54), (34, q52), (33, q50), (32, q48), (31, q46), (30, q44), (29, q42), (28, q40), (27, q38), (26, q36), (25, q34), (24, q31), (23, q29), (22, q27), (21, q25), (20, q23), (19, q21), (18, q19), (17, q17), (16, q15), (15, q13), (14, q11), (13, q9), (12, q7), (11, q5), (10, q3), (9, q1)]) (fi := [0, 0, 0, 0, 0, 0, 0, 0, 0, 0, 0, 0, 0, 0, 0, 0, 0, 0, 0, 0, 0, 0, 0, 0, 0, 0, 0, 0, 0, 0, 0, 0, 0, 0, 0, 0, 0, 0, 0, 0, 0, 0, 0, 0, 0, 0, 0, 0, 0, 0, 0, 0, 0, 0, 0, 0, 0, 0, 0, 0, 0, 0, 0, 0, 0, 0, 0, 0, 0, 0, 0, 0, 0, 0, 0, 0, 0, 0, 0, 0, 0]) (b := (fun _ _ => 0)) (a := a) (r2 := []) (r3 := [(8, 0), (9, 0), (10, 1), (11, 0), (12, 0), (13, 0), (14, 1), (15, 1), (16, 1), (17, 1), (18, 0), (19, 0), (20, 0), (21, 0), (22, 0), (23, 0), (24, 0), (25, 0), (26, 0), (27, 3), (28, 0), (29, 0), (30, 0), (31, 0), (32, 1), (33, 1), (34, 0), (35, 0), (36, 0), (37, 0), (38, 0), (39, 0), (40, 0), (41, 0), (42, 0), (43, 1), (44, 1), (45, 0), (46, 0), (49, 0), (50, 0), (51, 0), (52, 1), (55, 0), (56, 0), (57, 0), (58, 0), (59, 0), (61, 0), (62, 0), (63, 0), (64, 0), (70, 0), (71, 0), (73, 1), (74, 1), (75, 0), (77, 0), (78, 0), (79, 0), (80, 0)]) (r4 := []) hZ124 g126 (by decide +kernel) (by decide +kernel) (by decide +kernel) rfl (show 0 ∈ ([0, 81, 80, 79, 78, 76, 75, 74, 72, 71, 65, 64, 63, 62, 60, 59, 58, 57, 56, 53, 52, 51, 50, 47, 46, 45, 44, 43, 42, 41, 40, 39, 38, 37, 36, 35, 34, 33, 32, 31, 30, 29, 28, 27, 26, 25, 24, 23, 22, 21, 20, 19, 18, 17, 16, 15, 14, 13, 12, 11, 10, 9] : List Nat) by decide) (show zAll [(8, 0), (9, 0), (10, 1), (11, 0), (12, 0), (13, 0), (14, 1), (15, 1), (16, 1), (17, 1), (18, 0), (19, 0), (20, 0), (21, 0), (22, 0), (23, 0), (24, 0), (25, 0), (26, 0), (27, 3), (28, 0), (29, 0), (30, 0), (31, 0), (32, 1), (33, 1), (34, 0), (35, 0), (36, 0), (37, 0), (38, 0), (39, 0), (40, 0), (41, 0), (42, 0), (43, 1), (44, 1), (45, 0), (46, 0), (49, 0), (50, 0), (51, 0), (52, 1), (55, 0), (56, 0), (57, 0), (58, 0), (59, 0), (61, 0), (62, 0), (63, 0), (64, 0), (70, 0), (71, 0), (73, 1), (74, 1), (75, 0), (77, 0), (78, 0), (79, 0), (80, 0)] (fun x : Nat × Nat => x.1 + 1 ∈ ([0, 81, 80, 79, 78, 76, 75, 74, 72, 71, 65, 64, 63, 62, 60, 59, 58, 57, 56, 53, 52, 51, 50, 47, 46, 45, 44, 43, 42, 41, 40, 39, 38, 37, 36, 35, 34, 33, 32, 31, 30, 29, 28, 27, 26, 25, 24, 23, 22, 21, 20, 19, 18, 17, 16, 15, 14, 13, 12, 11, 10, 9] : List Nat)) from (And.intro (by decide) (And.intro (by decide) (And.intro (by decide) (And.intro (by decide) (And.intro (by decide) (And.intro (by decide) (And.intro (by decide) (And.intro (by decide) (And.intro (by decide) (And.intro (by decide) (And.intro (by decide) (And.intro (by decide) (And.intro (by decide) (And.intro (by decide) (And.intro (by decide) (And.intro (by decide) (And.intro (by decide) (And.intro (by decide) (And.intro (by decide) (And.intro (by decide) (And.intro (by decide) (And.intro (by decide) (And.intro (by decide) (And.intro (by decide) (And.intro (by decide) (And.intro (by decide) (And.intro (by decide) (And.intro (by decide) (And.intro (by decide) (And.intro (by decide) (And.intro (by decide) (And.intro (by decide) (And.intro (by decide) (And.intro (by decide) (And.intro (by decide) (And.intro (by decide) (And.intro (by decide) (And.intro (by decide) (And.intro (by decide) (And.intro (by decide) (And.intro (by decide) (And.intro (by decide) (And.intro (by decide) (And.intro (by decide) (And.intro (by decide) (And.intro (by decide) (And.intro (by decide) (And.intro (by decide) (And.intro (by decide) (And.intro (by decide) (And.intro (by decide) (And.intro (by decide) (And.intro (by decide) (And.intro (by decide) (And.intro (by decide) (And.intro (by decide) (And.intro (by decide) (And.intro (by decide) (And.intro (by decide) (And.intro (by decide) (And.intro (by decide) trivial)))))))))))))))))))))))))))))))))))))))))))))))))))))))))))))) (show zAll [] (fun x : Nat × Nat => x.1 + 1 ∈ ([0, 81, 80, 79, 78, 76, 75, 74, 72, 71, 65, 64, 63, 62, 60, 59, 58, 57, 56, 53, 52, 51, 50, 47, 46, 45, 44, 43, 42, 41, 40, 39, 38, 37, 36, 35, 34, 33, 32, 31, 30, 29, 28, 27, 26, 25, 24, 23, 22, 21, 20, 19, 18, 17, 16, 15, 14, 13, 12, 11, 10, 9] : List Nat)) from trivial) rfl rfl (List.mem_of_getElem? (i := 0) rfl) (And.intro rfl (And.intro rfl (And.intro rfl (And.intro rfl (And.intro rfl (And.intro rfl (And.intro rfl (And.intro rfl (And.intro rfl (And.intro rfl (And.intro rfl (And.intro rfl (And.intro rfl (And.intro rfl (And.intro rfl (And.intro rfl (And.intro rfl (And.intro rfl (And.intro rfl (And.intro rfl (And.intro rfl (And.intro rfl (And.intro rfl (And.intro rfl (And.intro rfl (And.intro rfl (And.intro rfl (And.intro rfl (And.intro rfl (And.intro rfl (And.intro rfl (And.intro rfl (And.intro rfl (And.intro rfl (And.intro rfl (And.intro rfl (And.intro rfl (And.intro rfl (And.intro rfl (And.intro rfl (And.intro rfl (And.intro rfl (And.intro rfl (And.intro rfl (And.intro rfl (And.intro rfl (And.intro rfl (And.intro rfl (And.intro rfl (And.intro rfl (And.intro rfl (And.intro rfl (And.intro rfl (And.intro rfl (And.intro rfl (And.intro rfl (And.intro rfl (And.intro rfl (And.intro rfl (And.intro rfl (And.intro rfl (And.intro rfl (And.intro rfl (And.intro rfl (And.intro rfl (And.intro rfl (And.intro rfl (And.intro rfl (And.intro rfl (And.intro rfl (And.intro rfl (And.intro rfl (And.intro rfl (And.intro rfl (And.intro rfl (And.intro rfl (And.intro rfl (And.intro rfl (And.intro rfl (And.intro rfl (And.intro rfl trivial))))))))))))))))))))))))))))))))))))))))))))))))))))))))))))))))))))))))))))))))) (And.intro (List.mem_of_getElem? (i := 61) rfl) (And.intro (List.mem_of_getElem? (i := 60) rfl) (And.intro (List.mem_of_getElem? (i := 59) rfl) (And.intro (List.mem_of_getElem? (i := 58) rfl) (And.intro (List.mem_of_getElem? (i := 57) rfl) (And.intro (List.mem_of_getElem? (i := 56) rfl) (And.intro (List.mem_of_getElem? (i := 55) rfl) (And.intro (List.mem_of_getElem? (i := 54) rfl) (And.intro (List.mem_of_getElem? (i := 53) rfl) (And.intro (List.mem_of_getElem? (i := 52) rfl) (And.intro (List.mem_of_getElem? (i := 51) rfl) (And.intro (List.mem_of_getElem? (i := 50) rfl) (And.intro (List.mem_of_getElem? (i := 49) rfl) (And.intro (List.mem_of_getElem? (i := 48) rfl) (And.intro (List.mem_of_getElem? (i := 47) rfl) (And.intro (List.mem_of_getElem? (i := 46) rfl) (And.intro (List.mem_of_getElem? (i := 45) rfl) (And.intro (List.mem_of_getElem? (i := 44) rfl) (And.intro (List.mem_of_getElem? (i := 43) rfl) (And.intro (List.mem_of_getElem? (i := 42) rfl) (And.intro (List.mem_of_getElem? (i := 41) rfl) (And.intro (List.mem_of_getElem? (i := 40) rfl) (And.intro (List.mem_of_getElem? (i := 39) rfl) (And.intro (List.mem_of_getElem? (i := 38) rfl) (And.intro (List.mem_of_getElem? (i := 37) rfl) (And.intro (List.mem_of_getElem? (i := 36) rfl) (And.intro (List.mem_of_getElem? (i := 35) rfl) (And.intro (List.mem_of_getElem? (i := 34) rfl) (And.intro (List.mem_of_getElem? (i := 33) rfl) (And.intro (List.mem_of_getElem? (i := 32) rfl) (And.intro (List.mem_of_getElem? (i := 31) rfl) (And.intro (List.mem_of_getElem? (i := 30) rfl) (And.intro (List.mem_of_getElem? (i := 29) rfl) (And.intro (List.mem_of_getElem? (i := 28) rfl) (And.intro (List.mem_of_getElem? (i := 27) rfl) (And.intro (List.mem_of_getElem? (i := 26) rfl) (And.intro (List.mem_of_getElem? (i := 25) rfl) (And.intro (List.mem_of_getElem? (i := 24) rfl) (And.intro (List.mem_of_getElem? (i := 23) rfl) (And.intro (List.mem_of_getElem? (i := 22) rfl) (And.intro (List.mem_of_getElem? (i := 21) rfl) (And.intro (List.mem_of_getElem? (i := 20) rfl) (And.intro (List.mem_of_getElem? (i := 19) rfl) (And.intro (List.mem_of_getElem? (i := 18) rfl) (And.intro (List.mem_of_getElem? (i := 17) rfl) (And.intro (List.mem_of_getElem? (i := 16) rfl) (And.intro (List.mem_of_getElem? (i := 15) rfl) (And.intro (List.mem_of_getElem? (i := 14) rfl) (And.intro (List.mem_of_getElem? (i := 13) rfl) (And.intro (List.mem_of_getElem? (i := 12) rfl) (And.intro (List.mem_of_getElem? (i := 11) rfl) (And.intro (List.mem_of_getElem? (i := 10) rfl) (And.intro (List.mem_of_getElem? (i := 9) rfl) (And.intro (List.mem_of_getElem? (i := 8) rfl) (And.intro (List.mem_of_getElem? (i := 7) rfl) (And.intro (List.mem_of_getElem? (i := 6) rfl) (And.intro (List.mem_of_getElem? (i := 5) rfl) (And.intro (List.mem_of_getElem? (i := 4) rfl) (And.intro (List.mem_of_getElem? (i := 3) rfl) (And.intro (List.mem_of_getElem? (i := 2) rfl) (And.intro (List.mem_of_getElem? (i := 1) rfl) trivial))))))))))))))))))))))))))))))))))))))))))))))))))))))))))))) trivial trivial (And.intro (fun h => absurd h (by decide)) (And.intro (fun h => absurd h (by decide)) (And.intro (fun h => absurd h (by decide)) (And.intro (fun h => absurd h (by decide)) (And.intro (fun h => absurd h (by decide)) (And.intro (fun h => absurd h (by decide)) (And.intro (fun h => absurd h (by decide)) (And.intro (fun h => absurd h (by decide)) (And.intro (fun h => absurd h (by decide)) (And.intro (fun h => absurd h (by decide)) (And.intro (fun h => absurd h (by decide)) (And.intro (fun h => absurd h (by decide)) (And.intro (fun h => absurd h (by decide)) (And.intro (fun h => absurd h (by decide)) (And.intro (fun h => absurd h (by decide)) (And.intro (fun h => absurd h (by decide)) (And.intro (fun h => absurd h (by decide)) (And.intro (fun h => absurd h (by decide)) (And.intro (fun h => absurd h (by decide)) (And.intro (fun h => absurd h (by decide)) (And.intro (fun h => absurd h (by decide)) (And.intro (fun h => absurd h (by decide)) (And.intro (fun h => absurd h (by decide)) (And.intro (fun h => absurd h (by decide)) (And.intro (fun h => absurd h (by decide)) (And.intro (fun h => absurd h (by decide)) (And.intro (fun h => absurd h (by decide)) (And.intro (fun h => absurd h (by decide)) (And.intro (fun h => absurd h (by decide)) (And.intro (fun h => absurd h (by decide)) (And.intro (fun h => absurd h (by decide)) (And.intro (fun h => absurd h (by decide)) (And.intro (fun h => absurd h (by decide)) (And.intro (fun h => absurd h (by decide)) (And.intro (fun h => absurd h (by decide)) (And.intro (fun h => absurd h (by decide)) (And.intro (fun h => absurd h (by decide)) (And.intro (fun h => absurd h (by decide)) (And.intro (fun h => absurd h (by decide)) (And.intro (fun h => absurd h (by decide)) (And.intro (fun h => absurd h (by decide)) (And.intro (fun h => absurd h (by decide)) (And.intro (fun h => absurd h (by decide)) (And.intro (fun h => absurd h (by decide)) (And.intro (fun h => absurd h (by decide)) (And.intro (fun h => absurd h (by decide)) (And.intro (fun h => absurd h (by decide)) (And.intro (fun h => absurd h (by decide)) (And.intro (fun h => absurd h (by decide)) (And.intro (fun h => absurd h (by decide)) (And.intro (fun h => absurd h (by decide)) (And.intro (fun h => absurd h (by decide)) (And.intro (fun h => absurd h (by decide)) (And.intro (fun h => absurd h (by decide)) (And.intro (fun h => absurd h (by decide)) (And.intro (fun h => absurd h (by decide)) (And.intro (fun h => absurd h (by decide)) (And.intro (fun h => absurd h (by decide)) (And.intro (fun h => absurd h (by decide)) (And.intro (fun h => absurd h (by decide)) (And.intro (fun h => absurd h (by decide)) trivial))))))))))))))))))))))))))))))))))))))))))))))))))))))))))))), hG.tr zinA_G, zinA_new⟩
  cases hf
  exact W.vret hx hb hr (fun t ht hW => ⟨⟨(ad125, L125), rfl, ⟨hG125, hq125⟩, by rw [ht]; exact hZ125, va_K.moved hW.alike hK⟩, hS124.F ht⟩) hS124.2.2 d_16_1_535 hlk

