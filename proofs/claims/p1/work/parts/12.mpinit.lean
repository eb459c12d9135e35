theorem k_9_124 : (Jvm.Cond.methodLink "StaveHouseModel$Piece" (1 : Nat) ({ cls := "java/lang/Object", name := "<init>", desc := "()V" } : Jvm.MethodName)) ∈ wAll := wA_9 (j := 124) rfl rfl
theorem k_9_133 : (Jvm.Cond.fieldLink "StaveHouseModel$Piece" (7 : Nat) "StaveHouseModel$Piece" "clef" "[I") ∈ wAll := wA_9 (j := 133) rfl rfl
theorem k_9_135 : (Jvm.Cond.fieldLink "StaveHouseModel$Piece" (13 : Nat) "StaveHouseModel$Piece" "number" "[I") ∈ wAll := wA_9 (j := 135) rfl rfl
theorem k_9_137 : (Jvm.Cond.fieldLink "StaveHouseModel$Piece" (16 : Nat) "StaveHouseModel$Piece" "name" "[J") ∈ wAll := wA_9 (j := 137) rfl rfl
theorem k_9_139 : (Jvm.Cond.fieldLink "StaveHouseModel$Piece" (20 : Nat) "StaveHouseModel$Piece" "letters" "[I") ∈ wAll := wA_9 (j := 139) rfl rfl
theorem k_9_141 : (Jvm.Cond.fieldLink "StaveHouseModel$Piece" (23 : Nat) "StaveHouseModel$Piece" "events" "[I") ∈ wAll := wA_9 (j := 141) rfl rfl
theorem k_9_143 : (Jvm.Cond.fieldLink "StaveHouseModel$Piece" (26 : Nat) "StaveHouseModel$Piece" "notes" "[I") ∈ wAll := wA_9 (j := 143) rfl rfl
theorem k_9_145 : (Jvm.Cond.fieldLink "StaveHouseModel$Piece" (29 : Nat) "StaveHouseModel$Piece" "up" "[J") ∈ wAll := wA_9 (j := 145) rfl rfl
theorem k_9_147 : (Jvm.Cond.fieldLink "StaveHouseModel$Piece" (32 : Nat) "StaveHouseModel$Piece" "down" "[J") ∈ wAll := wA_9 (j := 147) rfl rfl
theorem k_9_149 : (Jvm.Cond.fieldLink "StaveHouseModel$Piece" (35 : Nat) "StaveHouseModel$Piece" "lengthUp" "[J") ∈ wAll := wA_9 (j := 149) rfl rfl
theorem k_9_151 : (Jvm.Cond.fieldLink "StaveHouseModel$Piece" (38 : Nat) "StaveHouseModel$Piece" "lengthDown" "[J") ∈ wAll := wA_9 (j := 151) rfl rfl
theorem k_9_153 : (Jvm.Cond.fieldLink "StaveHouseModel$Piece" (41 : Nat) "StaveHouseModel$Piece" "marks" "[I") ∈ wAll := wA_9 (j := 153) rfl rfl
theorem k_9_155 : (Jvm.Cond.fieldLink "StaveHouseModel$Piece" (44 : Nat) "StaveHouseModel$Piece" "loud" "[I") ∈ wAll := wA_9 (j := 155) rfl rfl
theorem k_9_157 : (Jvm.Cond.fieldLink "StaveHouseModel$Piece" (47 : Nat) "StaveHouseModel$Piece" "token" "[I") ∈ wAll := wA_9 (j := 157) rfl rfl
theorem k_9_159 : (Jvm.Cond.fieldLink "StaveHouseModel$Piece" (50 : Nat) "StaveHouseModel$Piece" "many" "[I") ∈ wAll := wA_9 (j := 159) rfl rfl
theorem k_9_161 : (Jvm.Cond.fieldLink "StaveHouseModel$Piece" (53 : Nat) "StaveHouseModel$Piece" "inside" "[I") ∈ wAll := wA_9 (j := 161) rfl rfl
theorem k_9_163 : (Jvm.Cond.fieldLink "StaveHouseModel$Piece" (56 : Nat) "StaveHouseModel$Piece" "ratioUp" "[I") ∈ wAll := wA_9 (j := 163) rfl rfl
theorem k_9_165 : (Jvm.Cond.fieldLink "StaveHouseModel$Piece" (59 : Nat) "StaveHouseModel$Piece" "ratioDown" "[I") ∈ wAll := wA_9 (j := 165) rfl rfl
theorem k_9_167 : (Jvm.Cond.fieldLink "StaveHouseModel$Piece" (62 : Nat) "StaveHouseModel$Piece" "outer" "[I") ∈ wAll := wA_9 (j := 167) rfl rfl
theorem k_9_169 : (Jvm.Cond.fieldLink "StaveHouseModel$Piece" (65 : Nat) "StaveHouseModel$Piece" "outerToken" "[I") ∈ wAll := wA_9 (j := 169) rfl rfl
theorem k_9_171 : (Jvm.Cond.fieldLink "StaveHouseModel$Piece" (68 : Nat) "StaveHouseModel$Piece" "slur" "[Z") ∈ wAll := wA_9 (j := 171) rfl rfl
theorem k_9_173 : (Jvm.Cond.fieldLink "StaveHouseModel$Piece" (72 : Nat) "StaveHouseModel$Piece" "step" "[I") ∈ wAll := wA_9 (j := 173) rfl rfl
theorem k_9_175 : (Jvm.Cond.fieldLink "StaveHouseModel$Piece" (75 : Nat) "StaveHouseModel$Piece" "alt" "[I") ∈ wAll := wA_9 (j := 175) rfl rfl
theorem k_9_177 : (Jvm.Cond.fieldLink "StaveHouseModel$Piece" (78 : Nat) "StaveHouseModel$Piece" "of" "[I") ∈ wAll := wA_9 (j := 177) rfl rfl
theorem k_9_179 : (Jvm.Cond.fieldLink "StaveHouseModel$Piece" (81 : Nat) "StaveHouseModel$Piece" "bar" "[I") ∈ wAll := wA_9 (j := 179) rfl rfl
theorem k_9_181 : (Jvm.Cond.fieldLink "StaveHouseModel$Piece" (84 : Nat) "StaveHouseModel$Piece" "inUp" "[J") ∈ wAll := wA_9 (j := 181) rfl rfl
theorem k_9_183 : (Jvm.Cond.fieldLink "StaveHouseModel$Piece" (87 : Nat) "StaveHouseModel$Piece" "inDown" "[J") ∈ wAll := wA_9 (j := 183) rfl rfl
theorem k_9_185 : (Jvm.Cond.fieldLink "StaveHouseModel$Piece" (90 : Nat) "StaveHouseModel$Piece" "form" "[I") ∈ wAll := wA_9 (j := 185) rfl rfl
theorem k_9_187 : (Jvm.Cond.fieldLink "StaveHouseModel$Piece" (93 : Nat) "StaveHouseModel$Piece" "points" "[I") ∈ wAll := wA_9 (j := 187) rfl rfl
theorem k_9_189 : (Jvm.Cond.fieldLink "StaveHouseModel$Piece" (96 : Nat) "StaveHouseModel$Piece" "held" "[I") ∈ wAll := wA_9 (j := 189) rfl rfl
theorem k_9_191 : (Jvm.Cond.fieldLink "StaveHouseModel$Piece" (99 : Nat) "StaveHouseModel$Piece" "accidentals" "[I") ∈ wAll := wA_9 (j := 191) rfl rfl
theorem k_9_193 : (Jvm.Cond.fieldLink "StaveHouseModel$Piece" (102 : Nat) "StaveHouseModel$Piece" "ledgers" "[I") ∈ wAll := wA_9 (j := 193) rfl rfl
theorem k_9_195 : (Jvm.Cond.fieldLink "StaveHouseModel$Piece" (105 : Nat) "StaveHouseModel$Piece" "group" "[I") ∈ wAll := wA_9 (j := 195) rfl rfl
theorem k_9_197 : (Jvm.Cond.fieldLink "StaveHouseModel$Piece" (108 : Nat) "StaveHouseModel$Piece" "beams" "[I") ∈ wAll := wA_9 (j := 197) rfl rfl
theorem k_9_199 : (Jvm.Cond.fieldLink "StaveHouseModel$Piece" (111 : Nat) "StaveHouseModel$Piece" "stem" "[I") ∈ wAll := wA_9 (j := 199) rfl rfl
theorem k_9_201 : (Jvm.Cond.fieldLink "StaveHouseModel$Piece" (114 : Nat) "StaveHouseModel$Piece" "firstColumn" "[I") ∈ wAll := wA_9 (j := 201) rfl rfl
theorem k_9_203 : (Jvm.Cond.fieldLink "StaveHouseModel$Piece" (117 : Nat) "StaveHouseModel$Piece" "columnUp" "[J") ∈ wAll := wA_9 (j := 203) rfl rfl
theorem k_9_205 : (Jvm.Cond.fieldLink "StaveHouseModel$Piece" (120 : Nat) "StaveHouseModel$Piece" "columnDown" "[J") ∈ wAll := wA_9 (j := 205) rfl rfl
theorem k_9_207 : (Jvm.Cond.fieldLink "StaveHouseModel$Piece" (123 : Nat) "StaveHouseModel$Piece" "columnWide" "[I") ∈ wAll := wA_9 (j := 207) rfl rfl
theorem k_9_209 : (Jvm.Cond.fieldLink "StaveHouseModel$Piece" (126 : Nat) "StaveHouseModel$Piece" "barWide" "[I") ∈ wAll := wA_9 (j := 209) rfl rfl
theorem k_9_213 : (Jvm.Cond.fieldLink "StaveHouseModel$Piece" (129 : Nat) "StaveHouseModel$Piece" "lineBar" "[I") ∈ wAll := wA_9 (j := 213) rfl rfl
theorem k_9_215 : (Jvm.Cond.fieldLink "StaveHouseModel$Piece" (132 : Nat) "StaveHouseModel$Piece" "lineBars" "[I") ∈ wAll := wA_9 (j := 215) rfl rfl
theorem k_9_217 : (Jvm.Cond.fieldLink "StaveHouseModel$Piece" (135 : Nat) "StaveHouseModel$Piece" "lineWide" "[I") ∈ wAll := wA_9 (j := 217) rfl rfl
theorem k_9_219 : (Jvm.Cond.fieldLink "StaveHouseModel$Piece" (138 : Nat) "StaveHouseModel$Piece" "linePrice" "[J") ∈ wAll := wA_9 (j := 219) rfl rfl
theorem k_9_223 : (Jvm.Cond.fieldLink "StaveHouseModel$Piece" (141 : Nat) "StaveHouseModel$Piece" "begins" "[I") ∈ wAll := wA_9 (j := 223) rfl rfl
theorem k_9_225 : (Jvm.Cond.fieldLink "StaveHouseModel$Piece" (144 : Nat) "StaveHouseModel$Piece" "ends" "[I") ∈ wAll := wA_9 (j := 225) rfl rfl
theorem k_9_227 : (Jvm.Cond.fieldLink "StaveHouseModel$Piece" (147 : Nat) "StaveHouseModel$Piece" "tone" "[I") ∈ wAll := wA_9 (j := 227) rfl rfl
theorem k_9_229 : (Jvm.Cond.fieldLink "StaveHouseModel$Piece" (150 : Nat) "StaveHouseModel$Piece" "force" "[I") ∈ wAll := wA_9 (j := 229) rfl rfl
theorem k_9_231 : (Jvm.Cond.fieldLink "StaveHouseModel$Piece" (153 : Nat) "StaveHouseModel$Piece" "voiceOf" "[I") ∈ wAll := wA_9 (j := 231) rfl rfl
theorem k_9_234 : (Jvm.Cond.fieldLink "StaveHouseModel$Piece" (156 : Nat) "StaveHouseModel$Piece" "strokeTick" "[I") ∈ wAll := wA_9 (j := 234) rfl rfl
theorem k_9_236 : (Jvm.Cond.fieldLink "StaveHouseModel$Piece" (159 : Nat) "StaveHouseModel$Piece" "strokeVoice" "[I") ∈ wAll := wA_9 (j := 236) rfl rfl
theorem k_9_238 : (Jvm.Cond.fieldLink "StaveHouseModel$Piece" (162 : Nat) "StaveHouseModel$Piece" "strokeTone" "[I") ∈ wAll := wA_9 (j := 238) rfl rfl
theorem k_10_0 : (Jvm.Cond.fieldLink "StaveHouseModel$Piece" (165 : Nat) "StaveHouseModel$Piece" "strokeForce" "[I") ∈ wAll := wA_10 (j := 0) rfl rfl
theorem k_10_7 : (Jvm.Cond.fieldLink "StaveHouseModel$Piece" (168 : Nat) "StaveHouseModel$Piece" "heard" "[I") ∈ wAll := wA_10 (j := 7) rfl rfl
theorem k_10_9 : (Jvm.Cond.fieldLink "StaveHouseModel$Piece" (171 : Nat) "StaveHouseModel$Piece" "codes" "[I") ∈ wAll := wA_10 (j := 9) rfl rfl
theorem k_10_12 : (Jvm.Cond.fieldLink "StaveHouseModel$Piece" (174 : Nat) "StaveHouseModel$Piece" "momentUp" "[J") ∈ wAll := wA_10 (j := 12) rfl rfl
theorem k_10_14 : (Jvm.Cond.fieldLink "StaveHouseModel$Piece" (177 : Nat) "StaveHouseModel$Piece" "momentDown" "[J") ∈ wAll := wA_10 (j := 14) rfl rfl
theorem k_10_16 : (Jvm.Cond.fieldLink "StaveHouseModel$Piece" (180 : Nat) "StaveHouseModel$Piece" "lies" "[I") ∈ wAll := wA_10 (j := 16) rfl rfl
theorem k_10_19 : (Jvm.Cond.fieldLink "StaveHouseModel$Piece" (183 : Nat) "StaveHouseModel$Piece" "faultMoment" "[I") ∈ wAll := wA_10 (j := 19) rfl rfl
theorem k_10_21 : (Jvm.Cond.fieldLink "StaveHouseModel$Piece" (186 : Nat) "StaveHouseModel$Piece" "faultKind" "[I") ∈ wAll := wA_10 (j := 21) rfl rfl
theorem k_10_23 : (Jvm.Cond.fieldLink "StaveHouseModel$Piece" (189 : Nat) "StaveHouseModel$Piece" "faultFirst" "[I") ∈ wAll := wA_10 (j := 23) rfl rfl
theorem k_10_25 : (Jvm.Cond.fieldLink "StaveHouseModel$Piece" (192 : Nat) "StaveHouseModel$Piece" "faultSecond" "[I") ∈ wAll := wA_10 (j := 25) rfl rfl
theorem k_10_27 : (Jvm.Cond.lays "StaveHouseModel$Piece" "StaveHouseModel$Piece" "there" "Z") ∈ wAll := wA_10 (j := 27) rfl rfl
theorem k_10_29 : (Jvm.Cond.lays "StaveHouseModel$Piece" "StaveHouseModel$Piece" "voices" "I") ∈ wAll := wA_10 (j := 29) rfl rfl
theorem k_10_31 : (Jvm.Cond.lays "StaveHouseModel$Piece" "StaveHouseModel$Piece" "fifths" "I") ∈ wAll := wA_10 (j := 31) rfl rfl
theorem k_10_33 : (Jvm.Cond.lays "StaveHouseModel$Piece" "StaveHouseModel$Piece" "minor" "Z") ∈ wAll := wA_10 (j := 33) rfl rfl
theorem k_10_35 : (Jvm.Cond.lays "StaveHouseModel$Piece" "StaveHouseModel$Piece" "n" "I") ∈ wAll := wA_10 (j := 35) rfl rfl
theorem k_10_37 : (Jvm.Cond.lays "StaveHouseModel$Piece" "StaveHouseModel$Piece" "d" "I") ∈ wAll := wA_10 (j := 37) rfl rfl
theorem k_10_39 : (Jvm.Cond.lays "StaveHouseModel$Piece" "StaveHouseModel$Piece" "tempo" "I") ∈ wAll := wA_10 (j := 39) rfl rfl
theorem k_10_41 : (Jvm.Cond.lays "StaveHouseModel$Piece" "StaveHouseModel$Piece" "bars" "I") ∈ wAll := wA_10 (j := 41) rfl rfl
theorem k_10_43 : (Jvm.Cond.laysFinal "StaveHouseModel$Piece" "StaveHouseModel$Piece" "clef" "[I") ∈ wAll := wA_10 (j := 43) rfl rfl
theorem k_10_45 : (Jvm.Cond.laysFinal "StaveHouseModel$Piece" "StaveHouseModel$Piece" "number" "[I") ∈ wAll := wA_10 (j := 45) rfl rfl
theorem k_10_47 : (Jvm.Cond.laysFinal "StaveHouseModel$Piece" "StaveHouseModel$Piece" "name" "[J") ∈ wAll := wA_10 (j := 47) rfl rfl
theorem k_10_49 : (Jvm.Cond.laysFinal "StaveHouseModel$Piece" "StaveHouseModel$Piece" "letters" "[I") ∈ wAll := wA_10 (j := 49) rfl rfl
theorem k_10_51 : (Jvm.Cond.laysFinal "StaveHouseModel$Piece" "StaveHouseModel$Piece" "events" "[I") ∈ wAll := wA_10 (j := 51) rfl rfl
theorem k_10_53 : (Jvm.Cond.laysFinal "StaveHouseModel$Piece" "StaveHouseModel$Piece" "notes" "[I") ∈ wAll := wA_10 (j := 53) rfl rfl
theorem k_10_55 : (Jvm.Cond.laysFinal "StaveHouseModel$Piece" "StaveHouseModel$Piece" "up" "[J") ∈ wAll := wA_10 (j := 55) rfl rfl
theorem k_10_57 : (Jvm.Cond.laysFinal "StaveHouseModel$Piece" "StaveHouseModel$Piece" "down" "[J") ∈ wAll := wA_10 (j := 57) rfl rfl
theorem k_10_59 : (Jvm.Cond.laysFinal "StaveHouseModel$Piece" "StaveHouseModel$Piece" "lengthUp" "[J") ∈ wAll := wA_10 (j := 59) rfl rfl
theorem k_10_61 : (Jvm.Cond.laysFinal "StaveHouseModel$Piece" "StaveHouseModel$Piece" "lengthDown" "[J") ∈ wAll := wA_10 (j := 61) rfl rfl
theorem k_10_63 : (Jvm.Cond.laysFinal "StaveHouseModel$Piece" "StaveHouseModel$Piece" "marks" "[I") ∈ wAll := wA_10 (j := 63) rfl rfl
theorem k_10_65 : (Jvm.Cond.laysFinal "StaveHouseModel$Piece" "StaveHouseModel$Piece" "loud" "[I") ∈ wAll := wA_10 (j := 65) rfl rfl
theorem k_10_67 : (Jvm.Cond.laysFinal "StaveHouseModel$Piece" "StaveHouseModel$Piece" "token" "[I") ∈ wAll := wA_10 (j := 67) rfl rfl
theorem k_10_69 : (Jvm.Cond.laysFinal "StaveHouseModel$Piece" "StaveHouseModel$Piece" "many" "[I") ∈ wAll := wA_10 (j := 69) rfl rfl
theorem k_10_71 : (Jvm.Cond.laysFinal "StaveHouseModel$Piece" "StaveHouseModel$Piece" "inside" "[I") ∈ wAll := wA_10 (j := 71) rfl rfl
theorem k_10_73 : (Jvm.Cond.laysFinal "StaveHouseModel$Piece" "StaveHouseModel$Piece" "ratioUp" "[I") ∈ wAll := wA_10 (j := 73) rfl rfl
theorem k_10_75 : (Jvm.Cond.laysFinal "StaveHouseModel$Piece" "StaveHouseModel$Piece" "ratioDown" "[I") ∈ wAll := wA_10 (j := 75) rfl rfl
theorem k_10_77 : (Jvm.Cond.laysFinal "StaveHouseModel$Piece" "StaveHouseModel$Piece" "outer" "[I") ∈ wAll := wA_10 (j := 77) rfl rfl
theorem k_10_79 : (Jvm.Cond.laysFinal "StaveHouseModel$Piece" "StaveHouseModel$Piece" "outerToken" "[I") ∈ wAll := wA_10 (j := 79) rfl rfl
theorem k_10_81 : (Jvm.Cond.laysFinal "StaveHouseModel$Piece" "StaveHouseModel$Piece" "slur" "[Z") ∈ wAll := wA_10 (j := 81) rfl rfl
theorem k_10_83 : (Jvm.Cond.laysFinal "StaveHouseModel$Piece" "StaveHouseModel$Piece" "step" "[I") ∈ wAll := wA_10 (j := 83) rfl rfl
theorem k_10_85 : (Jvm.Cond.laysFinal "StaveHouseModel$Piece" "StaveHouseModel$Piece" "alt" "[I") ∈ wAll := wA_10 (j := 85) rfl rfl
theorem k_10_87 : (Jvm.Cond.laysFinal "StaveHouseModel$Piece" "StaveHouseModel$Piece" "of" "[I") ∈ wAll := wA_10 (j := 87) rfl rfl
theorem k_10_89 : (Jvm.Cond.laysFinal "StaveHouseModel$Piece" "StaveHouseModel$Piece" "bar" "[I") ∈ wAll := wA_10 (j := 89) rfl rfl
theorem k_10_91 : (Jvm.Cond.laysFinal "StaveHouseModel$Piece" "StaveHouseModel$Piece" "inUp" "[J") ∈ wAll := wA_10 (j := 91) rfl rfl
theorem k_10_93 : (Jvm.Cond.laysFinal "StaveHouseModel$Piece" "StaveHouseModel$Piece" "inDown" "[J") ∈ wAll := wA_10 (j := 93) rfl rfl
theorem k_10_95 : (Jvm.Cond.laysFinal "StaveHouseModel$Piece" "StaveHouseModel$Piece" "form" "[I") ∈ wAll := wA_10 (j := 95) rfl rfl
theorem k_10_97 : (Jvm.Cond.laysFinal "StaveHouseModel$Piece" "StaveHouseModel$Piece" "points" "[I") ∈ wAll := wA_10 (j := 97) rfl rfl
theorem k_10_99 : (Jvm.Cond.laysFinal "StaveHouseModel$Piece" "StaveHouseModel$Piece" "held" "[I") ∈ wAll := wA_10 (j := 99) rfl rfl
theorem k_10_101 : (Jvm.Cond.laysFinal "StaveHouseModel$Piece" "StaveHouseModel$Piece" "accidentals" "[I") ∈ wAll := wA_10 (j := 101) rfl rfl
theorem k_10_103 : (Jvm.Cond.laysFinal "StaveHouseModel$Piece" "StaveHouseModel$Piece" "ledgers" "[I") ∈ wAll := wA_10 (j := 103) rfl rfl
theorem k_10_105 : (Jvm.Cond.laysFinal "StaveHouseModel$Piece" "StaveHouseModel$Piece" "group" "[I") ∈ wAll := wA_10 (j := 105) rfl rfl
theorem k_10_107 : (Jvm.Cond.laysFinal "StaveHouseModel$Piece" "StaveHouseModel$Piece" "beams" "[I") ∈ wAll := wA_10 (j := 107) rfl rfl
theorem k_10_109 : (Jvm.Cond.laysFinal "StaveHouseModel$Piece" "StaveHouseModel$Piece" "stem" "[I") ∈ wAll := wA_10 (j := 109) rfl rfl
theorem k_10_111 : (Jvm.Cond.laysFinal "StaveHouseModel$Piece" "StaveHouseModel$Piece" "firstColumn" "[I") ∈ wAll := wA_10 (j := 111) rfl rfl
theorem k_10_113 : (Jvm.Cond.laysFinal "StaveHouseModel$Piece" "StaveHouseModel$Piece" "columnUp" "[J") ∈ wAll := wA_10 (j := 113) rfl rfl
theorem k_10_115 : (Jvm.Cond.laysFinal "StaveHouseModel$Piece" "StaveHouseModel$Piece" "columnDown" "[J") ∈ wAll := wA_10 (j := 115) rfl rfl
theorem k_10_117 : (Jvm.Cond.laysFinal "StaveHouseModel$Piece" "StaveHouseModel$Piece" "columnWide" "[I") ∈ wAll := wA_10 (j := 117) rfl rfl
theorem k_10_119 : (Jvm.Cond.laysFinal "StaveHouseModel$Piece" "StaveHouseModel$Piece" "barWide" "[I") ∈ wAll := wA_10 (j := 119) rfl rfl
theorem k_10_121 : (Jvm.Cond.lays "StaveHouseModel$Piece" "StaveHouseModel$Piece" "width" "I") ∈ wAll := wA_10 (j := 121) rfl rfl
theorem k_10_123 : (Jvm.Cond.lays "StaveHouseModel$Piece" "StaveHouseModel$Piece" "lines" "I") ∈ wAll := wA_10 (j := 123) rfl rfl
theorem k_10_125 : (Jvm.Cond.laysFinal "StaveHouseModel$Piece" "StaveHouseModel$Piece" "lineBar" "[I") ∈ wAll := wA_10 (j := 125) rfl rfl
theorem k_10_127 : (Jvm.Cond.laysFinal "StaveHouseModel$Piece" "StaveHouseModel$Piece" "lineBars" "[I") ∈ wAll := wA_10 (j := 127) rfl rfl
theorem k_10_129 : (Jvm.Cond.laysFinal "StaveHouseModel$Piece" "StaveHouseModel$Piece" "lineWide" "[I") ∈ wAll := wA_10 (j := 129) rfl rfl
theorem k_10_131 : (Jvm.Cond.laysFinal "StaveHouseModel$Piece" "StaveHouseModel$Piece" "linePrice" "[J") ∈ wAll := wA_10 (j := 131) rfl rfl
theorem k_10_133 : (Jvm.Cond.lays "StaveHouseModel$Piece" "StaveHouseModel$Piece" "performed" "Z") ∈ wAll := wA_10 (j := 133) rfl rfl
theorem k_10_135 : (Jvm.Cond.lays "StaveHouseModel$Piece" "StaveHouseModel$Piece" "sounds" "I") ∈ wAll := wA_10 (j := 135) rfl rfl
theorem k_10_137 : (Jvm.Cond.laysFinal "StaveHouseModel$Piece" "StaveHouseModel$Piece" "begins" "[I") ∈ wAll := wA_10 (j := 137) rfl rfl
theorem k_10_139 : (Jvm.Cond.laysFinal "StaveHouseModel$Piece" "StaveHouseModel$Piece" "ends" "[I") ∈ wAll := wA_10 (j := 139) rfl rfl
theorem k_10_141 : (Jvm.Cond.laysFinal "StaveHouseModel$Piece" "StaveHouseModel$Piece" "tone" "[I") ∈ wAll := wA_10 (j := 141) rfl rfl
theorem k_10_143 : (Jvm.Cond.laysFinal "StaveHouseModel$Piece" "StaveHouseModel$Piece" "force" "[I") ∈ wAll := wA_10 (j := 143) rfl rfl
theorem k_10_145 : (Jvm.Cond.laysFinal "StaveHouseModel$Piece" "StaveHouseModel$Piece" "voiceOf" "[I") ∈ wAll := wA_10 (j := 145) rfl rfl
theorem k_10_147 : (Jvm.Cond.lays "StaveHouseModel$Piece" "StaveHouseModel$Piece" "strokes" "I") ∈ wAll := wA_10 (j := 147) rfl rfl
theorem k_10_149 : (Jvm.Cond.laysFinal "StaveHouseModel$Piece" "StaveHouseModel$Piece" "strokeTick" "[I") ∈ wAll := wA_10 (j := 149) rfl rfl
theorem k_10_151 : (Jvm.Cond.laysFinal "StaveHouseModel$Piece" "StaveHouseModel$Piece" "strokeVoice" "[I") ∈ wAll := wA_10 (j := 151) rfl rfl
theorem k_10_153 : (Jvm.Cond.laysFinal "StaveHouseModel$Piece" "StaveHouseModel$Piece" "strokeTone" "[I") ∈ wAll := wA_10 (j := 153) rfl rfl
theorem k_10_155 : (Jvm.Cond.laysFinal "StaveHouseModel$Piece" "StaveHouseModel$Piece" "strokeForce" "[I") ∈ wAll := wA_10 (j := 155) rfl rfl
theorem k_10_157 : (Jvm.Cond.lays "StaveHouseModel$Piece" "StaveHouseModel$Piece" "made" "I") ∈ wAll := wA_10 (j := 157) rfl rfl
theorem k_10_159 : (Jvm.Cond.lays "StaveHouseModel$Piece" "StaveHouseModel$Piece" "latest" "I") ∈ wAll := wA_10 (j := 159) rfl rfl
theorem k_10_161 : (Jvm.Cond.lays "StaveHouseModel$Piece" "StaveHouseModel$Piece" "last" "I") ∈ wAll := wA_10 (j := 161) rfl rfl
theorem k_10_163 : (Jvm.Cond.lays "StaveHouseModel$Piece" "StaveHouseModel$Piece" "predicted" "I") ∈ wAll := wA_10 (j := 163) rfl rfl
theorem k_10_165 : (Jvm.Cond.lays "StaveHouseModel$Piece" "StaveHouseModel$Piece" "index" "I") ∈ wAll := wA_10 (j := 165) rfl rfl
theorem k_10_167 : (Jvm.Cond.laysFinal "StaveHouseModel$Piece" "StaveHouseModel$Piece" "heard" "[I") ∈ wAll := wA_10 (j := 167) rfl rfl
theorem k_10_169 : (Jvm.Cond.laysFinal "StaveHouseModel$Piece" "StaveHouseModel$Piece" "codes" "[I") ∈ wAll := wA_10 (j := 169) rfl rfl
theorem k_10_171 : (Jvm.Cond.lays "StaveHouseModel$Piece" "StaveHouseModel$Piece" "moments" "I") ∈ wAll := wA_10 (j := 171) rfl rfl
theorem k_10_173 : (Jvm.Cond.laysFinal "StaveHouseModel$Piece" "StaveHouseModel$Piece" "momentUp" "[J") ∈ wAll := wA_10 (j := 173) rfl rfl
theorem k_10_175 : (Jvm.Cond.laysFinal "StaveHouseModel$Piece" "StaveHouseModel$Piece" "momentDown" "[J") ∈ wAll := wA_10 (j := 175) rfl rfl
theorem k_10_177 : (Jvm.Cond.laysFinal "StaveHouseModel$Piece" "StaveHouseModel$Piece" "lies" "[I") ∈ wAll := wA_10 (j := 177) rfl rfl
theorem k_10_179 : (Jvm.Cond.lays "StaveHouseModel$Piece" "StaveHouseModel$Piece" "faults" "I") ∈ wAll := wA_10 (j := 179) rfl rfl
theorem k_10_181 : (Jvm.Cond.laysFinal "StaveHouseModel$Piece" "StaveHouseModel$Piece" "faultMoment" "[I") ∈ wAll := wA_10 (j := 181) rfl rfl
theorem k_10_183 : (Jvm.Cond.laysFinal "StaveHouseModel$Piece" "StaveHouseModel$Piece" "faultKind" "[I") ∈ wAll := wA_10 (j := 183) rfl rfl
theorem k_10_185 : (Jvm.Cond.laysFinal "StaveHouseModel$Piece" "StaveHouseModel$Piece" "faultFirst" "[I") ∈ wAll := wA_10 (j := 185) rfl rfl
theorem k_10_187 : (Jvm.Cond.laysFinal "StaveHouseModel$Piece" "StaveHouseModel$Piece" "faultSecond" "[I") ∈ wAll := wA_10 (j := 187) rfl rfl
theorem d_16_1_0 : decode prog_16_method_1_code 0 = .ok (.aload_n 0, 1) := by decide +kernel
theorem d_16_1_1 : decode prog_16_method_1_code 1 = .ok (.invokespecial 1, 3) := by decide +kernel
theorem d_16_1_4 : decode prog_16_method_1_code 4 = .ok (.aload_n 0, 1) := by decide +kernel
theorem d_16_1_5 : decode prog_16_method_1_code 5 = .ok (.iconst 4, 1) := by decide +kernel
theorem d_16_1_6 : decode prog_16_method_1_code 6 = .ok (.newarray .int, 2) := by decide +kernel
theorem d_16_1_8 : decode prog_16_method_1_code 8 = .ok (.putfield 7, 3) := by decide +kernel
theorem d_16_1_11 : decode prog_16_method_1_code 11 = .ok (.aload_n 0, 1) := by decide +kernel
theorem d_16_1_12 : decode prog_16_method_1_code 12 = .ok (.iconst 4, 1) := by decide +kernel
theorem d_16_1_13 : decode prog_16_method_1_code 13 = .ok (.newarray .int, 2) := by decide +kernel
theorem d_16_1_15 : decode prog_16_method_1_code 15 = .ok (.putfield 13, 3) := by decide +kernel
theorem d_16_1_18 : decode prog_16_method_1_code 18 = .ok (.aload_n 0, 1) := by decide +kernel
theorem d_16_1_19 : decode prog_16_method_1_code 19 = .ok (.iconst 4, 1) := by decide +kernel
theorem d_16_1_20 : decode prog_16_method_1_code 20 = .ok (.newarray .long, 2) := by decide +kernel
theorem d_16_1_22 : decode prog_16_method_1_code 22 = .ok (.putfield 16, 3) := by decide +kernel
theorem d_16_1_25 : decode prog_16_method_1_code 25 = .ok (.aload_n 0, 1) := by decide +kernel
theorem d_16_1_26 : decode prog_16_method_1_code 26 = .ok (.iconst 4, 1) := by decide +kernel
theorem d_16_1_27 : decode prog_16_method_1_code 27 = .ok (.newarray .int, 2) := by decide +kernel
theorem d_16_1_29 : decode prog_16_method_1_code 29 = .ok (.putfield 20, 3) := by decide +kernel
theorem d_16_1_32 : decode prog_16_method_1_code 32 = .ok (.aload_n 0, 1) := by decide +kernel
theorem d_16_1_33 : decode prog_16_method_1_code 33 = .ok (.iconst 4, 1) := by decide +kernel
theorem d_16_1_34 : decode prog_16_method_1_code 34 = .ok (.newarray .int, 2) := by decide +kernel
theorem d_16_1_36 : decode prog_16_method_1_code 36 = .ok (.putfield 23, 3) := by decide +kernel
theorem d_16_1_39 : decode prog_16_method_1_code 39 = .ok (.aload_n 0, 1) := by decide +kernel
theorem d_16_1_40 : decode prog_16_method_1_code 40 = .ok (.iconst 4, 1) := by decide +kernel
theorem d_16_1_41 : decode prog_16_method_1_code 41 = .ok (.newarray .int, 2) := by decide +kernel
theorem d_16_1_43 : decode prog_16_method_1_code 43 = .ok (.putfield 26, 3) := by decide +kernel
theorem d_16_1_46 : decode prog_16_method_1_code 46 = .ok (.aload_n 0, 1) := by decide +kernel
theorem d_16_1_47 : decode prog_16_method_1_code 47 = .ok (.sipush 4000, 3) := by decide +kernel
theorem d_16_1_50 : decode prog_16_method_1_code 50 = .ok (.newarray .long, 2) := by decide +kernel
theorem d_16_1_52 : decode prog_16_method_1_code 52 = .ok (.putfield 29, 3) := by decide +kernel
theorem d_16_1_55 : decode prog_16_method_1_code 55 = .ok (.aload_n 0, 1) := by decide +kernel
theorem d_16_1_56 : decode prog_16_method_1_code 56 = .ok (.sipush 4000, 3) := by decide +kernel
theorem d_16_1_59 : decode prog_16_method_1_code 59 = .ok (.newarray .long, 2) := by decide +kernel
theorem d_16_1_61 : decode prog_16_method_1_code 61 = .ok (.putfield 32, 3) := by decide +kernel
theorem d_16_1_64 : decode prog_16_method_1_code 64 = .ok (.aload_n 0, 1) := by decide +kernel
theorem d_16_1_65 : decode prog_16_method_1_code 65 = .ok (.sipush 4000, 3) := by decide +kernel
theorem d_16_1_68 : decode prog_16_method_1_code 68 = .ok (.newarray .long, 2) := by decide +kernel
theorem d_16_1_70 : decode prog_16_method_1_code 70 = .ok (.putfield 35, 3) := by decide +kernel
theorem d_16_1_73 : decode prog_16_method_1_code 73 = .ok (.aload_n 0, 1) := by decide +kernel
theorem d_16_1_74 : decode prog_16_method_1_code 74 = .ok (.sipush 4000, 3) := by decide +kernel
theorem d_16_1_77 : decode prog_16_method_1_code 77 = .ok (.newarray .long, 2) := by decide +kernel
theorem d_16_1_79 : decode prog_16_method_1_code 79 = .ok (.putfield 38, 3) := by decide +kernel
theorem d_16_1_82 : decode prog_16_method_1_code 82 = .ok (.aload_n 0, 1) := by decide +kernel
theorem d_16_1_83 : decode prog_16_method_1_code 83 = .ok (.sipush 4000, 3) := by decide +kernel
theorem d_16_1_86 : decode prog_16_method_1_code 86 = .ok (.newarray .int, 2) := by decide +kernel
theorem d_16_1_88 : decode prog_16_method_1_code 88 = .ok (.putfield 41, 3) := by decide +kernel
theorem d_16_1_91 : decode prog_16_method_1_code 91 = .ok (.aload_n 0, 1) := by decide +kernel
theorem d_16_1_92 : decode prog_16_method_1_code 92 = .ok (.sipush 4000, 3) := by decide +kernel
theorem d_16_1_95 : decode prog_16_method_1_code 95 = .ok (.newarray .int, 2) := by decide +kernel
theorem d_16_1_97 : decode prog_16_method_1_code 97 = .ok (.putfield 44, 3) := by decide +kernel
theorem d_16_1_100 : decode prog_16_method_1_code 100 = .ok (.aload_n 0, 1) := by decide +kernel
theorem d_16_1_101 : decode prog_16_method_1_code 101 = .ok (.sipush 4000, 3) := by decide +kernel
theorem d_16_1_104 : decode prog_16_method_1_code 104 = .ok (.newarray .int, 2) := by decide +kernel
theorem d_16_1_106 : decode prog_16_method_1_code 106 = .ok (.putfield 47, 3) := by decide +kernel
theorem d_16_1_109 : decode prog_16_method_1_code 109 = .ok (.aload_n 0, 1) := by decide +kernel
theorem d_16_1_110 : decode prog_16_method_1_code 110 = .ok (.sipush 4000, 3) := by decide +kernel
theorem d_16_1_113 : decode prog_16_method_1_code 113 = .ok (.newarray .int, 2) := by decide +kernel
theorem d_16_1_115 : decode prog_16_method_1_code 115 = .ok (.putfield 50, 3) := by decide +kernel
theorem d_16_1_118 : decode prog_16_method_1_code 118 = .ok (.aload_n 0, 1) := by decide +kernel
theorem d_16_1_119 : decode prog_16_method_1_code 119 = .ok (.sipush 4000, 3) := by decide +kernel
theorem d_16_1_122 : decode prog_16_method_1_code 122 = .ok (.newarray .int, 2) := by decide +kernel
theorem d_16_1_124 : decode prog_16_method_1_code 124 = .ok (.putfield 53, 3) := by decide +kernel
theorem d_16_1_127 : decode prog_16_method_1_code 127 = .ok (.aload_n 0, 1) := by decide +kernel
theorem d_16_1_128 : decode prog_16_method_1_code 128 = .ok (.sipush 4000, 3) := by decide +kernel
theorem d_16_1_131 : decode prog_16_method_1_code 131 = .ok (.newarray .int, 2) := by decide +kernel
theorem d_16_1_133 : decode prog_16_method_1_code 133 = .ok (.putfield 56, 3) := by decide +kernel
theorem d_16_1_136 : decode prog_16_method_1_code 136 = .ok (.aload_n 0, 1) := by decide +kernel
theorem d_16_1_137 : decode prog_16_method_1_code 137 = .ok (.sipush 4000, 3) := by decide +kernel
theorem d_16_1_140 : decode prog_16_method_1_code 140 = .ok (.newarray .int, 2) := by decide +kernel
theorem d_16_1_142 : decode prog_16_method_1_code 142 = .ok (.putfield 59, 3) := by decide +kernel
theorem d_16_1_145 : decode prog_16_method_1_code 145 = .ok (.aload_n 0, 1) := by decide +kernel
theorem d_16_1_146 : decode prog_16_method_1_code 146 = .ok (.sipush 4000, 3) := by decide +kernel
theorem d_16_1_149 : decode prog_16_method_1_code 149 = .ok (.newarray .int, 2) := by decide +kernel
theorem d_16_1_151 : decode prog_16_method_1_code 151 = .ok (.putfield 62, 3) := by decide +kernel
theorem d_16_1_154 : decode prog_16_method_1_code 154 = .ok (.aload_n 0, 1) := by decide +kernel
theorem d_16_1_155 : decode prog_16_method_1_code 155 = .ok (.sipush 4000, 3) := by decide +kernel
theorem d_16_1_158 : decode prog_16_method_1_code 158 = .ok (.newarray .int, 2) := by decide +kernel
theorem d_16_1_160 : decode prog_16_method_1_code 160 = .ok (.putfield 65, 3) := by decide +kernel
theorem d_16_1_163 : decode prog_16_method_1_code 163 = .ok (.aload_n 0, 1) := by decide +kernel
theorem d_16_1_164 : decode prog_16_method_1_code 164 = .ok (.sipush 4000, 3) := by decide +kernel
theorem d_16_1_167 : decode prog_16_method_1_code 167 = .ok (.newarray .boolean, 2) := by decide +kernel
theorem d_16_1_169 : decode prog_16_method_1_code 169 = .ok (.putfield 68, 3) := by decide +kernel
theorem d_16_1_172 : decode prog_16_method_1_code 172 = .ok (.aload_n 0, 1) := by decide +kernel
theorem d_16_1_173 : decode prog_16_method_1_code 173 = .ok (.sipush 24000, 3) := by decide +kernel
theorem d_16_1_176 : decode prog_16_method_1_code 176 = .ok (.newarray .int, 2) := by decide +kernel
theorem d_16_1_178 : decode prog_16_method_1_code 178 = .ok (.putfield 72, 3) := by decide +kernel
theorem d_16_1_181 : decode prog_16_method_1_code 181 = .ok (.aload_n 0, 1) := by decide +kernel
theorem d_16_1_182 : decode prog_16_method_1_code 182 = .ok (.sipush 24000, 3) := by decide +kernel
theorem d_16_1_185 : decode prog_16_method_1_code 185 = .ok (.newarray .int, 2) := by decide +kernel
theorem d_16_1_187 : decode prog_16_method_1_code 187 = .ok (.putfield 75, 3) := by decide +kernel
theorem d_16_1_190 : decode prog_16_method_1_code 190 = .ok (.aload_n 0, 1) := by decide +kernel
theorem d_16_1_191 : decode prog_16_method_1_code 191 = .ok (.sipush 3200, 3) := by decide +kernel
theorem d_16_1_194 : decode prog_16_method_1_code 194 = .ok (.newarray .int, 2) := by decide +kernel
theorem d_16_1_196 : decode prog_16_method_1_code 196 = .ok (.putfield 78, 3) := by decide +kernel
theorem d_16_1_199 : decode prog_16_method_1_code 199 = .ok (.aload_n 0, 1) := by decide +kernel
theorem d_16_1_200 : decode prog_16_method_1_code 200 = .ok (.sipush 3200, 3) := by decide +kernel
theorem d_16_1_203 : decode prog_16_method_1_code 203 = .ok (.newarray .int, 2) := by decide +kernel
theorem d_16_1_205 : decode prog_16_method_1_code 205 = .ok (.putfield 81, 3) := by decide +kernel
theorem d_16_1_208 : decode prog_16_method_1_code 208 = .ok (.aload_n 0, 1) := by decide +kernel
theorem d_16_1_209 : decode prog_16_method_1_code 209 = .ok (.sipush 3200, 3) := by decide +kernel
theorem d_16_1_212 : decode prog_16_method_1_code 212 = .ok (.newarray .long, 2) := by decide +kernel
theorem d_16_1_214 : decode prog_16_method_1_code 214 = .ok (.putfield 84, 3) := by decide +kernel
theorem d_16_1_217 : decode prog_16_method_1_code 217 = .ok (.aload_n 0, 1) := by decide +kernel
theorem d_16_1_218 : decode prog_16_method_1_code 218 = .ok (.sipush 3200, 3) := by decide +kernel
theorem d_16_1_221 : decode prog_16_method_1_code 221 = .ok (.newarray .long, 2) := by decide +kernel
theorem d_16_1_223 : decode prog_16_method_1_code 223 = .ok (.putfield 87, 3) := by decide +kernel
theorem d_16_1_226 : decode prog_16_method_1_code 226 = .ok (.aload_n 0, 1) := by decide +kernel
theorem d_16_1_227 : decode prog_16_method_1_code 227 = .ok (.sipush 3200, 3) := by decide +kernel
theorem d_16_1_230 : decode prog_16_method_1_code 230 = .ok (.newarray .int, 2) := by decide +kernel
theorem d_16_1_232 : decode prog_16_method_1_code 232 = .ok (.putfield 90, 3) := by decide +kernel
theorem d_16_1_235 : decode prog_16_method_1_code 235 = .ok (.aload_n 0, 1) := by decide +kernel
theorem d_16_1_236 : decode prog_16_method_1_code 236 = .ok (.sipush 3200, 3) := by decide +kernel
theorem d_16_1_239 : decode prog_16_method_1_code 239 = .ok (.newarray .int, 2) := by decide +kernel
theorem d_16_1_241 : decode prog_16_method_1_code 241 = .ok (.putfield 93, 3) := by decide +kernel
theorem d_16_1_244 : decode prog_16_method_1_code 244 = .ok (.aload_n 0, 1) := by decide +kernel
theorem d_16_1_245 : decode prog_16_method_1_code 245 = .ok (.sipush 3200, 3) := by decide +kernel
theorem d_16_1_248 : decode prog_16_method_1_code 248 = .ok (.newarray .int, 2) := by decide +kernel
theorem d_16_1_250 : decode prog_16_method_1_code 250 = .ok (.putfield 96, 3) := by decide +kernel
theorem d_16_1_253 : decode prog_16_method_1_code 253 = .ok (.aload_n 0, 1) := by decide +kernel
theorem d_16_1_254 : decode prog_16_method_1_code 254 = .ok (.sipush 3200, 3) := by decide +kernel
theorem d_16_1_257 : decode prog_16_method_1_code 257 = .ok (.newarray .int, 2) := by decide +kernel
theorem d_16_1_259 : decode prog_16_method_1_code 259 = .ok (.putfield 99, 3) := by decide +kernel
theorem d_16_1_262 : decode prog_16_method_1_code 262 = .ok (.aload_n 0, 1) := by decide +kernel
theorem d_16_1_263 : decode prog_16_method_1_code 263 = .ok (.sipush 3200, 3) := by decide +kernel
theorem d_16_1_266 : decode prog_16_method_1_code 266 = .ok (.newarray .int, 2) := by decide +kernel
theorem d_16_1_268 : decode prog_16_method_1_code 268 = .ok (.putfield 102, 3) := by decide +kernel
theorem d_16_1_271 : decode prog_16_method_1_code 271 = .ok (.aload_n 0, 1) := by decide +kernel
theorem d_16_1_272 : decode prog_16_method_1_code 272 = .ok (.sipush 3200, 3) := by decide +kernel
theorem d_16_1_275 : decode prog_16_method_1_code 275 = .ok (.newarray .int, 2) := by decide +kernel
theorem d_16_1_277 : decode prog_16_method_1_code 277 = .ok (.putfield 105, 3) := by decide +kernel
theorem d_16_1_280 : decode prog_16_method_1_code 280 = .ok (.aload_n 0, 1) := by decide +kernel
theorem d_16_1_281 : decode prog_16_method_1_code 281 = .ok (.sipush 3200, 3) := by decide +kernel
theorem d_16_1_284 : decode prog_16_method_1_code 284 = .ok (.newarray .int, 2) := by decide +kernel
theorem d_16_1_286 : decode prog_16_method_1_code 286 = .ok (.putfield 108, 3) := by decide +kernel
theorem d_16_1_289 : decode prog_16_method_1_code 289 = .ok (.aload_n 0, 1) := by decide +kernel
theorem d_16_1_290 : decode prog_16_method_1_code 290 = .ok (.sipush 3200, 3) := by decide +kernel
theorem d_16_1_293 : decode prog_16_method_1_code 293 = .ok (.newarray .int, 2) := by decide +kernel
theorem d_16_1_295 : decode prog_16_method_1_code 295 = .ok (.putfield 111, 3) := by decide +kernel
theorem d_16_1_298 : decode prog_16_method_1_code 298 = .ok (.aload_n 0, 1) := by decide +kernel
theorem d_16_1_299 : decode prog_16_method_1_code 299 = .ok (.bipush 101, 2) := by decide +kernel
theorem d_16_1_301 : decode prog_16_method_1_code 301 = .ok (.newarray .int, 2) := by decide +kernel
theorem d_16_1_303 : decode prog_16_method_1_code 303 = .ok (.putfield 114, 3) := by decide +kernel
theorem d_16_1_306 : decode prog_16_method_1_code 306 = .ok (.aload_n 0, 1) := by decide +kernel
theorem d_16_1_307 : decode prog_16_method_1_code 307 = .ok (.sipush 3200, 3) := by decide +kernel
theorem d_16_1_310 : decode prog_16_method_1_code 310 = .ok (.newarray .long, 2) := by decide +kernel
theorem d_16_1_312 : decode prog_16_method_1_code 312 = .ok (.putfield 117, 3) := by decide +kernel
theorem d_16_1_315 : decode prog_16_method_1_code 315 = .ok (.aload_n 0, 1) := by decide +kernel
theorem d_16_1_316 : decode prog_16_method_1_code 316 = .ok (.sipush 3200, 3) := by decide +kernel
theorem d_16_1_319 : decode prog_16_method_1_code 319 = .ok (.newarray .long, 2) := by decide +kernel
theorem d_16_1_321 : decode prog_16_method_1_code 321 = .ok (.putfield 120, 3) := by decide +kernel
theorem d_16_1_324 : decode prog_16_method_1_code 324 = .ok (.aload_n 0, 1) := by decide +kernel
theorem d_16_1_325 : decode prog_16_method_1_code 325 = .ok (.sipush 3200, 3) := by decide +kernel
theorem d_16_1_328 : decode prog_16_method_1_code 328 = .ok (.newarray .int, 2) := by decide +kernel
theorem d_16_1_330 : decode prog_16_method_1_code 330 = .ok (.putfield 123, 3) := by decide +kernel
theorem d_16_1_333 : decode prog_16_method_1_code 333 = .ok (.aload_n 0, 1) := by decide +kernel
theorem d_16_1_334 : decode prog_16_method_1_code 334 = .ok (.bipush 100, 2) := by decide +kernel
theorem d_16_1_336 : decode prog_16_method_1_code 336 = .ok (.newarray .int, 2) := by decide +kernel
theorem d_16_1_338 : decode prog_16_method_1_code 338 = .ok (.putfield 126, 3) := by decide +kernel
theorem d_16_1_341 : decode prog_16_method_1_code 341 = .ok (.aload_n 0, 1) := by decide +kernel
theorem d_16_1_342 : decode prog_16_method_1_code 342 = .ok (.bipush 100, 2) := by decide +kernel
theorem d_16_1_344 : decode prog_16_method_1_code 344 = .ok (.newarray .int, 2) := by decide +kernel
theorem d_16_1_346 : decode prog_16_method_1_code 346 = .ok (.putfield 129, 3) := by decide +kernel
theorem d_16_1_349 : decode prog_16_method_1_code 349 = .ok (.aload_n 0, 1) := by decide +kernel
theorem d_16_1_350 : decode prog_16_method_1_code 350 = .ok (.bipush 100, 2) := by decide +kernel
theorem d_16_1_352 : decode prog_16_method_1_code 352 = .ok (.newarray .int, 2) := by decide +kernel
theorem d_16_1_354 : decode prog_16_method_1_code 354 = .ok (.putfield 132, 3) := by decide +kernel
theorem d_16_1_357 : decode prog_16_method_1_code 357 = .ok (.aload_n 0, 1) := by decide +kernel
theorem d_16_1_358 : decode prog_16_method_1_code 358 = .ok (.bipush 100, 2) := by decide +kernel
theorem d_16_1_360 : decode prog_16_method_1_code 360 = .ok (.newarray .int, 2) := by decide +kernel
theorem d_16_1_362 : decode prog_16_method_1_code 362 = .ok (.putfield 135, 3) := by decide +kernel
theorem d_16_1_365 : decode prog_16_method_1_code 365 = .ok (.aload_n 0, 1) := by decide +kernel
theorem d_16_1_366 : decode prog_16_method_1_code 366 = .ok (.bipush 100, 2) := by decide +kernel
theorem d_16_1_368 : decode prog_16_method_1_code 368 = .ok (.newarray .long, 2) := by decide +kernel
theorem d_16_1_370 : decode prog_16_method_1_code 370 = .ok (.putfield 138, 3) := by decide +kernel
theorem d_16_1_373 : decode prog_16_method_1_code 373 = .ok (.aload_n 0, 1) := by decide +kernel
theorem d_16_1_374 : decode prog_16_method_1_code 374 = .ok (.sipush 2000, 3) := by decide +kernel
theorem d_16_1_377 : decode prog_16_method_1_code 377 = .ok (.newarray .int, 2) := by decide +kernel
theorem d_16_1_379 : decode prog_16_method_1_code 379 = .ok (.putfield 141, 3) := by decide +kernel
theorem d_16_1_382 : decode prog_16_method_1_code 382 = .ok (.aload_n 0, 1) := by decide +kernel
theorem d_16_1_383 : decode prog_16_method_1_code 383 = .ok (.sipush 2000, 3) := by decide +kernel
theorem d_16_1_386 : decode prog_16_method_1_code 386 = .ok (.newarray .int, 2) := by decide +kernel
theorem d_16_1_388 : decode prog_16_method_1_code 388 = .ok (.putfield 144, 3) := by decide +kernel
theorem d_16_1_391 : decode prog_16_method_1_code 391 = .ok (.aload_n 0, 1) := by decide +kernel
theorem d_16_1_392 : decode prog_16_method_1_code 392 = .ok (.sipush 2000, 3) := by decide +kernel
theorem d_16_1_395 : decode prog_16_method_1_code 395 = .ok (.newarray .int, 2) := by decide +kernel
theorem d_16_1_397 : decode prog_16_method_1_code 397 = .ok (.putfield 147, 3) := by decide +kernel
theorem d_16_1_400 : decode prog_16_method_1_code 400 = .ok (.aload_n 0, 1) := by decide +kernel
theorem d_16_1_401 : decode prog_16_method_1_code 401 = .ok (.sipush 2000, 3) := by decide +kernel
theorem d_16_1_404 : decode prog_16_method_1_code 404 = .ok (.newarray .int, 2) := by decide +kernel
theorem d_16_1_406 : decode prog_16_method_1_code 406 = .ok (.putfield 150, 3) := by decide +kernel
theorem d_16_1_409 : decode prog_16_method_1_code 409 = .ok (.aload_n 0, 1) := by decide +kernel
theorem d_16_1_410 : decode prog_16_method_1_code 410 = .ok (.sipush 2000, 3) := by decide +kernel
theorem d_16_1_413 : decode prog_16_method_1_code 413 = .ok (.newarray .int, 2) := by decide +kernel
theorem d_16_1_415 : decode prog_16_method_1_code 415 = .ok (.putfield 153, 3) := by decide +kernel
theorem d_16_1_418 : decode prog_16_method_1_code 418 = .ok (.aload_n 0, 1) := by decide +kernel
theorem d_16_1_419 : decode prog_16_method_1_code 419 = .ok (.sipush 4000, 3) := by decide +kernel
theorem d_16_1_422 : decode prog_16_method_1_code 422 = .ok (.newarray .int, 2) := by decide +kernel
theorem d_16_1_424 : decode prog_16_method_1_code 424 = .ok (.putfield 156, 3) := by decide +kernel
theorem d_16_1_427 : decode prog_16_method_1_code 427 = .ok (.aload_n 0, 1) := by decide +kernel
theorem d_16_1_428 : decode prog_16_method_1_code 428 = .ok (.sipush 4000, 3) := by decide +kernel
theorem d_16_1_431 : decode prog_16_method_1_code 431 = .ok (.newarray .int, 2) := by decide +kernel
theorem d_16_1_433 : decode prog_16_method_1_code 433 = .ok (.putfield 159, 3) := by decide +kernel
theorem d_16_1_436 : decode prog_16_method_1_code 436 = .ok (.aload_n 0, 1) := by decide +kernel
theorem d_16_1_437 : decode prog_16_method_1_code 437 = .ok (.sipush 4000, 3) := by decide +kernel
theorem d_16_1_440 : decode prog_16_method_1_code 440 = .ok (.newarray .int, 2) := by decide +kernel
theorem d_16_1_442 : decode prog_16_method_1_code 442 = .ok (.putfield 162, 3) := by decide +kernel
theorem d_16_1_445 : decode prog_16_method_1_code 445 = .ok (.aload_n 0, 1) := by decide +kernel
theorem d_16_1_446 : decode prog_16_method_1_code 446 = .ok (.sipush 4000, 3) := by decide +kernel
theorem d_16_1_449 : decode prog_16_method_1_code 449 = .ok (.newarray .int, 2) := by decide +kernel
theorem d_16_1_451 : decode prog_16_method_1_code 451 = .ok (.putfield 165, 3) := by decide +kernel
theorem d_16_1_454 : decode prog_16_method_1_code 454 = .ok (.aload_n 0, 1) := by decide +kernel
theorem d_16_1_455 : decode prog_16_method_1_code 455 = .ok (.sipush 1000, 3) := by decide +kernel
theorem d_16_1_458 : decode prog_16_method_1_code 458 = .ok (.newarray .int, 2) := by decide +kernel
theorem d_16_1_460 : decode prog_16_method_1_code 460 = .ok (.putfield 168, 3) := by decide +kernel
theorem d_16_1_463 : decode prog_16_method_1_code 463 = .ok (.aload_n 0, 1) := by decide +kernel
theorem d_16_1_464 : decode prog_16_method_1_code 464 = .ok (.sipush 1000, 3) := by decide +kernel
theorem d_16_1_467 : decode prog_16_method_1_code 467 = .ok (.newarray .int, 2) := by decide +kernel
theorem d_16_1_469 : decode prog_16_method_1_code 469 = .ok (.putfield 171, 3) := by decide +kernel
theorem d_16_1_472 : decode prog_16_method_1_code 472 = .ok (.aload_n 0, 1) := by decide +kernel
theorem d_16_1_473 : decode prog_16_method_1_code 473 = .ok (.sipush 800, 3) := by decide +kernel
theorem d_16_1_476 : decode prog_16_method_1_code 476 = .ok (.newarray .long, 2) := by decide +kernel
theorem d_16_1_478 : decode prog_16_method_1_code 478 = .ok (.putfield 174, 3) := by decide +kernel
theorem d_16_1_481 : decode prog_16_method_1_code 481 = .ok (.aload_n 0, 1) := by decide +kernel
theorem d_16_1_482 : decode prog_16_method_1_code 482 = .ok (.sipush 800, 3) := by decide +kernel
theorem d_16_1_485 : decode prog_16_method_1_code 485 = .ok (.newarray .long, 2) := by decide +kernel
theorem d_16_1_487 : decode prog_16_method_1_code 487 = .ok (.putfield 177, 3) := by decide +kernel
theorem d_16_1_490 : decode prog_16_method_1_code 490 = .ok (.aload_n 0, 1) := by decide +kernel
theorem d_16_1_491 : decode prog_16_method_1_code 491 = .ok (.sipush 3200, 3) := by decide +kernel
theorem d_16_1_494 : decode prog_16_method_1_code 494 = .ok (.newarray .int, 2) := by decide +kernel
theorem d_16_1_496 : decode prog_16_method_1_code 496 = .ok (.putfield 180, 3) := by decide +kernel
theorem d_16_1_499 : decode prog_16_method_1_code 499 = .ok (.aload_n 0, 1) := by decide +kernel
theorem d_16_1_500 : decode prog_16_method_1_code 500 = .ok (.sipush 300, 3) := by decide +kernel
theorem d_16_1_503 : decode prog_16_method_1_code 503 = .ok (.newarray .int, 2) := by decide +kernel
theorem d_16_1_505 : decode prog_16_method_1_code 505 = .ok (.putfield 183, 3) := by decide +kernel
theorem d_16_1_508 : decode prog_16_method_1_code 508 = .ok (.aload_n 0, 1) := by decide +kernel
theorem d_16_1_509 : decode prog_16_method_1_code 509 = .ok (.sipush 300, 3) := by decide +kernel
theorem d_16_1_512 : decode prog_16_method_1_code 512 = .ok (.newarray .int, 2) := by decide +kernel
theorem d_16_1_514 : decode prog_16_method_1_code 514 = .ok (.putfield 186, 3) := by decide +kernel
theorem d_16_1_517 : decode prog_16_method_1_code 517 = .ok (.aload_n 0, 1) := by decide +kernel
theorem d_16_1_518 : decode prog_16_method_1_code 518 = .ok (.sipush 300, 3) := by decide +kernel
theorem d_16_1_521 : decode prog_16_method_1_code 521 = .ok (.newarray .int, 2) := by decide +kernel
theorem d_16_1_523 : decode prog_16_method_1_code 523 = .ok (.putfield 189, 3) := by decide +kernel
theorem d_16_1_526 : decode prog_16_method_1_code 526 = .ok (.aload_n 0, 1) := by decide +kernel
theorem d_16_1_527 : decode prog_16_method_1_code 527 = .ok (.sipush 300, 3) := by decide +kernel
theorem d_16_1_530 : decode prog_16_method_1_code 530 = .ok (.newarray .int, 2) := by decide +kernel
theorem d_16_1_532 : decode prog_16_method_1_code 532 = .ok (.putfield 192, 3) := by decide +kernel
theorem d_16_1_535 : decode prog_16_method_1_code 535 = .ok (.return_, 1) := by decide +kernel
set_option maxRecDepth 20000 in
theorem inW_13 : ∀ w ∈ u_ws RX13 TX13 81, w ∈ wAll := by
  show ∀ w ∈ [(Jvm.Cond.lays "StaveHouseModel$Piece" "StaveHouseModel$Piece" "there" "Z"), (Jvm.Cond.lays "StaveHouseModel$Piece" "StaveHouseModel$Piece" "voices" "I"), (Jvm.Cond.lays "StaveHouseModel$Piece" "StaveHouseModel$Piece" "fifths" "I"), (Jvm.Cond.lays "StaveHouseModel$Piece" "StaveHouseModel$Piece" "minor" "Z"), (Jvm.Cond.lays "StaveHouseModel$Piece" "StaveHouseModel$Piece" "n" "I"), (Jvm.Cond.lays "StaveHouseModel$Piece" "StaveHouseModel$Piece" "d" "I"), (Jvm.Cond.lays "StaveHouseModel$Piece" "StaveHouseModel$Piece" "tempo" "I"), (Jvm.Cond.lays "StaveHouseModel$Piece" "StaveHouseModel$Piece" "bars" "I"), (Jvm.Cond.laysFinal "StaveHouseModel$Piece" "StaveHouseModel$Piece" "clef" "[I"), (Jvm.Cond.laysFinal "StaveHouseModel$Piece" "StaveHouseModel$Piece" "number" "[I"), (Jvm.Cond.laysFinal "StaveHouseModel$Piece" "StaveHouseModel$Piece" "name" "[J"), (Jvm.Cond.laysFinal "StaveHouseModel$Piece" "StaveHouseModel$Piece" "letters" "[I"), (Jvm.Cond.laysFinal "StaveHouseModel$Piece" "StaveHouseModel$Piece" "events" "[I"), (Jvm.Cond.laysFinal "StaveHouseModel$Piece" "StaveHouseModel$Piece" "notes" "[I"), (Jvm.Cond.laysFinal "StaveHouseModel$Piece" "StaveHouseModel$Piece" "up" "[J"), (Jvm.Cond.laysFinal "StaveHouseModel$Piece" "StaveHouseModel$Piece" "down" "[J"), (Jvm.Cond.laysFinal "StaveHouseModel$Piece" "StaveHouseModel$Piece" "lengthUp" "[J"), (Jvm.Cond.laysFinal "StaveHouseModel$Piece" "StaveHouseModel$Piece" "lengthDown" "[J"), (Jvm.Cond.laysFinal "StaveHouseModel$Piece" "StaveHouseModel$Piece" "marks" "[I"), (Jvm.Cond.laysFinal "StaveHouseModel$Piece" "StaveHouseModel$Piece" "loud" "[I"), (Jvm.Cond.laysFinal "StaveHouseModel$Piece" "StaveHouseModel$Piece" "token" "[I"), (Jvm.Cond.laysFinal "StaveHouseModel$Piece" "StaveHouseModel$Piece" "many" "[I"), (Jvm.Cond.laysFinal "StaveHouseModel$Piece" "StaveHouseModel$Piece" "inside" "[I"), (Jvm.Cond.laysFinal "StaveHouseModel$Piece" "StaveHouseModel$Piece" "ratioUp" "[I"), (Jvm.Cond.laysFinal "StaveHouseModel$Piece" "StaveHouseModel$Piece" "ratioDown" "[I"), (Jvm.Cond.laysFinal "StaveHouseModel$Piece" "StaveHouseModel$Piece" "outer" "[I"), (Jvm.Cond.laysFinal "StaveHouseModel$Piece" "StaveHouseModel$Piece" "outerToken" "[I"), (Jvm.Cond.laysFinal "StaveHouseModel$Piece" "StaveHouseModel$Piece" "slur" "[Z"), (Jvm.Cond.laysFinal "StaveHouseModel$Piece" "StaveHouseModel$Piece" "step" "[I"), (Jvm.Cond.laysFinal "StaveHouseModel$Piece" "StaveHouseModel$Piece" "alt" "[I"), (Jvm.Cond.laysFinal "StaveHouseModel$Piece" "StaveHouseModel$Piece" "of" "[I"), (Jvm.Cond.laysFinal "StaveHouseModel$Piece" "StaveHouseModel$Piece" "bar" "[I"), (Jvm.Cond.laysFinal "StaveHouseModel$Piece" "StaveHouseModel$Piece" "inUp" "[J"), (Jvm.Cond.laysFinal "StaveHouseModel$Piece" "StaveHouseModel$Piece" "inDown" "[J"), (Jvm.Cond.laysFinal "StaveHouseModel$Piece" "StaveHouseModel$Piece" "form" "[I"), (Jvm.Cond.laysFinal "StaveHouseModel$Piece" "StaveHouseModel$Piece" "points" "[I"), (Jvm.Cond.laysFinal "StaveHouseModel$Piece" "StaveHouseModel$Piece" "held" "[I"), (Jvm.Cond.laysFinal "StaveHouseModel$Piece" "StaveHouseModel$Piece" "accidentals" "[I"), (Jvm.Cond.laysFinal "StaveHouseModel$Piece" "StaveHouseModel$Piece" "ledgers" "[I"), (Jvm.Cond.laysFinal "StaveHouseModel$Piece" "StaveHouseModel$Piece" "group" "[I"), (Jvm.Cond.laysFinal "StaveHouseModel$Piece" "StaveHouseModel$Piece" "beams" "[I"), (Jvm.Cond.laysFinal "StaveHouseModel$Piece" "StaveHouseModel$Piece" "stem" "[I"), (Jvm.Cond.laysFinal "StaveHouseModel$Piece" "StaveHouseModel$Piece" "firstColumn" "[I"), (Jvm.Cond.laysFinal "StaveHouseModel$Piece" "StaveHouseModel$Piece" "columnUp" "[J"), (Jvm.Cond.laysFinal "StaveHouseModel$Piece" "StaveHouseModel$Piece" "columnDown" "[J"), (Jvm.Cond.laysFinal "StaveHouseModel$Piece" "StaveHouseModel$Piece" "columnWide" "[I"), (Jvm.Cond.laysFinal "StaveHouseModel$Piece" "StaveHouseModel$Piece" "barWide" "[I"), (Jvm.Cond.lays "StaveHouseModel$Piece" "StaveHouseModel$Piece" "width" "I"), (Jvm.Cond.lays "StaveHouseModel$Piece" "StaveHouseModel$Piece" "lines" "I"), (Jvm.Cond.laysFinal "StaveHouseModel$Piece" "StaveHouseModel$Piece" "lineBar" "[I"), (Jvm.Cond.laysFinal "StaveHouseModel$Piece" "StaveHouseModel$Piece" "lineBars" "[I"), (Jvm.Cond.laysFinal "StaveHouseModel$Piece" "StaveHouseModel$Piece" "lineWide" "[I"), (Jvm.Cond.laysFinal "StaveHouseModel$Piece" "StaveHouseModel$Piece" "linePrice" "[J"), (Jvm.Cond.lays "StaveHouseModel$Piece" "StaveHouseModel$Piece" "performed" "Z"), (Jvm.Cond.lays "StaveHouseModel$Piece" "StaveHouseModel$Piece" "sounds" "I"), (Jvm.Cond.laysFinal "StaveHouseModel$Piece" "StaveHouseModel$Piece" "begins" "[I"), (Jvm.Cond.laysFinal "StaveHouseModel$Piece" "StaveHouseModel$Piece" "ends" "[I"), (Jvm.Cond.laysFinal "StaveHouseModel$Piece" "StaveHouseModel$Piece" "tone" "[I"), (Jvm.Cond.laysFinal "StaveHouseModel$Piece" "StaveHouseModel$Piece" "force" "[I"), (Jvm.Cond.laysFinal "StaveHouseModel$Piece" "StaveHouseModel$Piece" "voiceOf" "[I"), (Jvm.Cond.lays "StaveHouseModel$Piece" "StaveHouseModel$Piece" "strokes" "I"), (Jvm.Cond.laysFinal "StaveHouseModel$Piece" "StaveHouseModel$Piece" "strokeTick" "[I"), (Jvm.Cond.laysFinal "StaveHouseModel$Piece" "StaveHouseModel$Piece" "strokeVoice" "[I"), (Jvm.Cond.laysFinal "StaveHouseModel$Piece" "StaveHouseModel$Piece" "strokeTone" "[I"), (Jvm.Cond.laysFinal "StaveHouseModel$Piece" "StaveHouseModel$Piece" "strokeForce" "[I"), (Jvm.Cond.lays "StaveHouseModel$Piece" "StaveHouseModel$Piece" "made" "I"), (Jvm.Cond.lays "StaveHouseModel$Piece" "StaveHouseModel$Piece" "latest" "I"), (Jvm.Cond.lays "StaveHouseModel$Piece" "StaveHouseModel$Piece" "last" "I"), (Jvm.Cond.lays "StaveHouseModel$Piece" "StaveHouseModel$Piece" "predicted" "I"), (Jvm.Cond.lays "StaveHouseModel$Piece" "StaveHouseModel$Piece" "index" "I"), (Jvm.Cond.laysFinal "StaveHouseModel$Piece" "StaveHouseModel$Piece" "heard" "[I"), (Jvm.Cond.laysFinal "StaveHouseModel$Piece" "StaveHouseModel$Piece" "codes" "[I"), (Jvm.Cond.lays "StaveHouseModel$Piece" "StaveHouseModel$Piece" "moments" "I"), (Jvm.Cond.laysFinal "StaveHouseModel$Piece" "StaveHouseModel$Piece" "momentUp" "[J"), (Jvm.Cond.laysFinal "StaveHouseModel$Piece" "StaveHouseModel$Piece" "momentDown" "[J"), (Jvm.Cond.laysFinal "StaveHouseModel$Piece" "StaveHouseModel$Piece" "lies" "[I"), (Jvm.Cond.lays "StaveHouseModel$Piece" "StaveHouseModel$Piece" "faults" "I"), (Jvm.Cond.laysFinal "StaveHouseModel$Piece" "StaveHouseModel$Piece" "faultMoment" "[I"), (Jvm.Cond.laysFinal "StaveHouseModel$Piece" "StaveHouseModel$Piece" "faultKind" "[I"), (Jvm.Cond.laysFinal "StaveHouseModel$Piece" "StaveHouseModel$Piece" "faultFirst" "[I"), (Jvm.Cond.laysFinal "StaveHouseModel$Piece" "StaveHouseModel$Piece" "faultSecond" "[I")], w ∈ wAll
  exact List.forall_mem_cons.mpr ⟨k_10_27, List.forall_mem_cons.mpr ⟨k_10_29, List.forall_mem_cons.mpr ⟨k_10_31, List.forall_mem_cons.mpr ⟨k_10_33, List.forall_mem_cons.mpr ⟨k_10_35, List.forall_mem_cons.mpr ⟨k_10_37, List.forall_mem_cons.mpr ⟨k_10_39, List.forall_mem_cons.mpr ⟨k_10_41, List.forall_mem_cons.mpr ⟨k_10_43, List.forall_mem_cons.mpr ⟨k_10_45, List.forall_mem_cons.mpr ⟨k_10_47, List.forall_mem_cons.mpr ⟨k_10_49, List.forall_mem_cons.mpr ⟨k_10_51, List.forall_mem_cons.mpr ⟨k_10_53, List.forall_mem_cons.mpr ⟨k_10_55, List.forall_mem_cons.mpr ⟨k_10_57, List.forall_mem_cons.mpr ⟨k_10_59, List.forall_mem_cons.mpr ⟨k_10_61, List.forall_mem_cons.mpr ⟨k_10_63, List.forall_mem_cons.mpr ⟨k_10_65, List.forall_mem_cons.mpr ⟨k_10_67, List.forall_mem_cons.mpr ⟨k_10_69, List.forall_mem_cons.mpr ⟨k_10_71, List.forall_mem_cons.mpr ⟨k_10_73, List.forall_mem_cons.mpr ⟨k_10_75, List.forall_mem_cons.mpr ⟨k_10_77, List.forall_mem_cons.mpr ⟨k_10_79, List.forall_mem_cons.mpr ⟨k_10_81, List.forall_mem_cons.mpr ⟨k_10_83, List.forall_mem_cons.mpr ⟨k_10_85, List.forall_mem_cons.mpr ⟨k_10_87, List.forall_mem_cons.mpr ⟨k_10_89, List.forall_mem_cons.mpr ⟨k_10_91, List.forall_mem_cons.mpr ⟨k_10_93, List.forall_mem_cons.mpr ⟨k_10_95, List.forall_mem_cons.mpr ⟨k_10_97, List.forall_mem_cons.mpr ⟨k_10_99, List.forall_mem_cons.mpr ⟨k_10_101, List.forall_mem_cons.mpr ⟨k_10_103, List.forall_mem_cons.mpr ⟨k_10_105, List.forall_mem_cons.mpr ⟨k_10_107, List.forall_mem_cons.mpr ⟨k_10_109, List.forall_mem_cons.mpr ⟨k_10_111, List.forall_mem_cons.mpr ⟨k_10_113, List.forall_mem_cons.mpr ⟨k_10_115, List.forall_mem_cons.mpr ⟨k_10_117, List.forall_mem_cons.mpr ⟨k_10_119, List.forall_mem_cons.mpr ⟨k_10_121, List.forall_mem_cons.mpr ⟨k_10_123, List.forall_mem_cons.mpr ⟨k_10_125, List.forall_mem_cons.mpr ⟨k_10_127, List.forall_mem_cons.mpr ⟨k_10_129, List.forall_mem_cons.mpr ⟨k_10_131, List.forall_mem_cons.mpr ⟨k_10_133, List.forall_mem_cons.mpr ⟨k_10_135, List.forall_mem_cons.mpr ⟨k_10_137, List.forall_mem_cons.mpr ⟨k_10_139, List.forall_mem_cons.mpr ⟨k_10_141, List.forall_mem_cons.mpr ⟨k_10_143, List.forall_mem_cons.mpr ⟨k_10_145, List.forall_mem_cons.mpr ⟨k_10_147, List.forall_mem_cons.mpr ⟨k_10_149, List.forall_mem_cons.mpr ⟨k_10_151, List.forall_mem_cons.mpr ⟨k_10_153, List.forall_mem_cons.mpr ⟨k_10_155, List.forall_mem_cons.mpr ⟨k_10_157, List.forall_mem_cons.mpr ⟨k_10_159, List.forall_mem_cons.mpr ⟨k_10_161, List.forall_mem_cons.mpr ⟨k_10_163, List.forall_mem_cons.mpr ⟨k_10_165, List.forall_mem_cons.mpr ⟨k_10_167, List.forall_mem_cons.mpr ⟨k_10_169, List.forall_mem_cons.mpr ⟨k_10_171, List.forall_mem_cons.mpr ⟨k_10_173, List.forall_mem_cons.mpr ⟨k_10_175, List.forall_mem_cons.mpr ⟨k_10_177, List.forall_mem_cons.mpr ⟨k_10_179, List.forall_mem_cons.mpr ⟨k_10_181, List.forall_mem_cons.mpr ⟨k_10_183, List.forall_mem_cons.mpr ⟨k_10_185, List.forall_mem_cons.mpr ⟨k_10_187, fun _ h => absurd h List.not_mem_nil⟩⟩⟩⟩⟩⟩⟩⟩⟩⟩⟩⟩⟩⟩⟩⟩⟩⟩⟩⟩⟩⟩⟩⟩⟩⟩⟩⟩⟩⟩⟩⟩⟩⟩⟩⟩⟩⟩⟩⟩⟩⟩⟩⟩⟩⟩⟩⟩⟩⟩⟩⟩⟩⟩⟩⟩⟩⟩⟩⟩⟩⟩⟩⟩⟩⟩⟩⟩⟩⟩⟩⟩⟩⟩⟩⟩⟩⟩⟩⟩⟩
abbrev Q_MP_init_0 (D : va_G) (ca : Nat → ClassId) (a0 : Nat) (g0 : Nat → Value) (A : Nat → Prop) : Array Value → State → Outcome → State → Prop := va_Qv (S := (Nat → Value)) (fun (u : (Nat → Value)) => gM g0 u [80, 79, 78, 77, 75, 74, 73, 71, 70, 64, 63, 62, 61, 59, 58, 57, 56, 55, 52, 51, 50, 49, 46, 45, 44, 43, 42, 41, 40, 39, 38, 37, 36, 35, 34, 33, 32, 31, 30, 29, 28, 27, 26, 25, 24, 23, 22, 21, 20, 19, 18, 17, 16, 15, 14, 13, 12, 11, 10, 9, 8] ∧ gF u []) (fun u => gB D ca A [(a0, .inr (13, rg 81 u))]) A
set_option maxHeartbeats 8000000 in
set_option maxRecDepth 100000 in
theorem c_MP_init_0 (l : Launch) (D : va_G) (ca : Nat → ClassId) (ad av : Nat → Nat) (sz : Nat) (a0 : Nat) (g0 : Nat → Value) (hp0 : gF g0 []) : Met l ({ cls := "StaveHouseModel$Piece", name := "<init>", desc := "()V" } : Jvm.MethodName) (Cond.code ({ cls := "StaveHouseModel$Piece", name := "<init>", desc := "()V" } : Jvm.MethodName) prog_16_method_1_code 1 (Option.none : Option Jvm.ClassFile.FieldType) :: wAll) ({ frames := 1, cells := 61, slots := 186625, locals := 12 } : Room) (va_Pc [.ref a0] (gPre D ca ad av [(a0, .inr (13, rg 81 g0))] sz)) (Q_MP_init_0 D ca a0 g0 (va_A [(a0, .inr (13, rg 81 g0))] sz)) 61 186625 (va_A [(a0, .inr (13, rg 81 g0))] sz) := by
  refine gMet (Qc := Q_MP_init_0 D ca a0 g0) (lv := [(0, .ref a0)]) (by decide) (Nat.le_of_ble_eq_true rfl) rfl (fun A p e s m below meth c ls hx hb hr hml hown hts hlk hnm hl hP hK hD hS hA hX => ?_)
  have hown : s.vm.findClass "StaveHouseModel$Piece" = some m.cls := hown
  have hnm : meth.name = "<init>" := hnm
  refine lv_aload_n hx hb d_16_1_0 rfl (lv_at hl 0 rfl) ?_
  refine W.objInit hx hb hown (hts _ k_9_124) (hts _ k_1_30) (hts _ k_1_31) rfl (by rw [hml]; exact hl.1) rfl d_16_1_1 (Nat.le_of_ble_eq_true rfl) (Nat.le_of_ble_eq_true rfl) ?_
  refine W.eq (g2 := F0 m 4 ls []) rfl ?_
  refine lv_aload_n hx hb d_16_1_4 rfl (lv_at hl 0 rfl) ?_
  refine lv_iconst (v := 4) hx hb d_16_1_5 (by decide) ?_
  refine gnewaX (atype := .int) hx hb hts k_1_57 hP hS (by decide) (N' := 4) (by decide) (Nat.le_of_ble_eq_true rfl) (Nat.le_of_ble_eq_true rfl) (Nat.le_of_ble_eq_true rfl) d_16_1_6 (fun q1 H1 hP1 hS1 => ?_)
  refine W.widen (k := 1) (n := 4) (Nat.le_of_ble_eq_true rfl) (Nat.le_of_ble_eq_true rfl) ?_
  refine gputFX hx hb hts inW_13 tyX13 tyX13_ok nmX13 hown hK hP1 hD hS1 0 rfl rfl hp0 8 (by decide) k_9_133 rfl hnm rfl rfl rfl d_16_1_8 (L' := []) rfl (fun f2 H2 locs2 hF2 hm2 hP2 hD2 hS2 => ?_)
  have hM2 := gM.tr (gM.rf (f := g0)) hm2
  have hP2 : va_P D cls [(a0, .inr (13, rg 81 f2))] H2 := hP2
  have hD2 : va_D A [(a0, .inr (13, rg 81 f2))] := hD2
  clear hP1 hS1 hm2
  refine lv_aload_n hx hb d_16_1_11 rfl (lv_at hl 0 rfl) ?_
  refine lv_iconst (v := 4) hx hb d_16_1_12 (by decide) ?_
  refine gnewaX (atype := .int) hx hb hts k_1_57 hP2 hS2 (by decide) (N' := 4) (by decide) (Nat.le_of_ble_eq_true rfl) (Nat.le_of_ble_eq_true rfl) (Nat.le_of_ble_eq_true rfl) d_16_1_13 (fun q3 H3 hP3 hS3 => ?_)
  clear hP2 hS2
  refine W.widen (k := 2) (n := 8) (Nat.le_of_ble_eq_true rfl) (Nat.le_of_ble_eq_true rfl) ?_
  refine gputFX hx hb hts inW_13 tyX13 tyX13_ok nmX13 hown hK hP3 hD2 hS3 0 rfl rfl hF2 9 (by decide) k_9_135 rfl hnm rfl rfl rfl d_16_1_15 (L' := []) rfl (fun f4 H4 locs4 hF4 hm4 hP4 hD4 hS4 => ?_)
  have hM4 := gM.tr hM2 hm4
  have hP4 : va_P D cls [(a0, .inr (13, rg 81 f4))] H4 := hP4
  have hD4 : va_D A [(a0, .inr (13, rg 81 f4))] := hD4
  clear hP3 hD2 hS3 hF2 hM2 hm4
  refine lv_aload_n hx hb d_16_1_18 rfl (lv_at hl 0 rfl) ?_
  refine lv_iconst (v := 4) hx hb d_16_1_19 (by decide) ?_
  refine gnewaX (atype := .long) hx hb hts k_1_105 hP4 hS4 (by decide) (N' := 4) (by decide) (Nat.le_of_ble_eq_true rfl) (Nat.le_of_ble_eq_true rfl) (Nat.le_of_ble_eq_true rfl) d_16_1_20 (fun q5 H5 hP5 hS5 => ?_)
  clear hP4 hS4
  refine W.widen (k := 3) (n := 12) (Nat.le_of_ble_eq_true rfl) (Nat.le_of_ble_eq_true rfl) ?_
  refine gputFX hx hb hts inW_13 tyX13 tyX13_ok nmX13 hown hK hP5 hD4 hS5 0 rfl rfl hF4 10 (by decide) k_9_137 rfl hnm rfl rfl rfl d_16_1_22 (L' := []) rfl (fun f6 H6 locs6 hF6 hm6 hP6 hD6 hS6 => ?_)
  have hM6 := gM.tr hM4 hm6
  have hP6 : va_P D cls [(a0, .inr (13, rg 81 f6))] H6 := hP6
  have hD6 : va_D A [(a0, .inr (13, rg 81 f6))] := hD6
  clear hP5 hD4 hS5 hF4 hM4 hm6
  refine lv_aload_n hx hb d_16_1_25 rfl (lv_at hl 0 rfl) ?_
  refine lv_iconst (v := 4) hx hb d_16_1_26 (by decide) ?_
  refine gnewaX (atype := .int) hx hb hts k_1_57 hP6 hS6 (by decide) (N' := 4) (by decide) (Nat.le_of_ble_eq_true rfl) (Nat.le_of_ble_eq_true rfl) (Nat.le_of_ble_eq_true rfl) d_16_1_27 (fun q7 H7 hP7 hS7 => ?_)
  clear hP6 hS6
  refine W.widen (k := 4) (n := 16) (Nat.le_of_ble_eq_true rfl) (Nat.le_of_ble_eq_true rfl) ?_
  refine gputFX hx hb hts inW_13 tyX13 tyX13_ok nmX13 hown hK hP7 hD6 hS7 0 rfl rfl hF6 11 (by decide) k_9_139 rfl hnm rfl rfl rfl d_16_1_29 (L' := []) rfl (fun f8 H8 locs8 hF8 hm8 hP8 hD8 hS8 => ?_)
  have hM8 := gM.tr hM6 hm8
  have hP8 : va_P D cls [(a0, .inr (13, rg 81 f8))] H8 := hP8
  have hD8 : va_D A [(a0, .inr (13, rg 81 f8))] := hD8
  clear hP7 hD6 hS7 hF6 hM6 hm8
  refine lv_aload_n hx hb d_16_1_32 rfl (lv_at hl 0 rfl) ?_
  refine lv_iconst (v := 4) hx hb d_16_1_33 (by decide) ?_
  refine gnewaX (atype := .int) hx hb hts k_1_57 hP8 hS8 (by decide) (N' := 4) (by decide) (Nat.le_of_ble_eq_true rfl) (Nat.le_of_ble_eq_true rfl) (Nat.le_of_ble_eq_true rfl) d_16_1_34 (fun q9 H9 hP9 hS9 => ?_)
  clear hP8 hS8
  refine W.widen (k := 5) (n := 20) (Nat.le_of_ble_eq_true rfl) (Nat.le_of_ble_eq_true rfl) ?_
  refine gputFX hx hb hts inW_13 tyX13 tyX13_ok nmX13 hown hK hP9 hD8 hS9 0 rfl rfl hF8 12 (by decide) k_9_141 rfl hnm rfl rfl rfl d_16_1_36 (L' := []) rfl (fun f10 H10 locs10 hF10 hm10 hP10 hD10 hS10 => ?_)
  have hM10 := gM.tr hM8 hm10
  have hP10 : va_P D cls [(a0, .inr (13, rg 81 f10))] H10 := hP10
  have hD10 : va_D A [(a0, .inr (13, rg 81 f10))] := hD10
  clear hP9 hD8 hS9 hF8 hM8 hm10
  refine lv_aload_n hx hb d_16_1_39 rfl (lv_at hl 0 rfl) ?_
  refine lv_iconst (v := 4) hx hb d_16_1_40 (by decide) ?_
  refine gnewaX (atype := .int) hx hb hts k_1_57 hP10 hS10 (by decide) (N' := 4) (by decide) (Nat.le_of_ble_eq_true rfl) (Nat.le_of_ble_eq_true rfl) (Nat.le_of_ble_eq_true rfl) d_16_1_41 (fun q11 H11 hP11 hS11 => ?_)
  clear hP10 hS10
  refine W.widen (k := 6) (n := 24) (Nat.le_of_ble_eq_true rfl) (Nat.le_of_ble_eq_true rfl) ?_
  refine gputFX hx hb hts inW_13 tyX13 tyX13_ok nmX13 hown hK hP11 hD10 hS11 0 rfl rfl hF10 13 (by decide) k_9_143 rfl hnm rfl rfl rfl d_16_1_43 (L' := []) rfl (fun f12 H12 locs12 hF12 hm12 hP12 hD12 hS12 => ?_)
  have hM12 := gM.tr hM10 hm12
  have hP12 : va_P D cls [(a0, .inr (13, rg 81 f12))] H12 := hP12
  have hD12 : va_D A [(a0, .inr (13, rg 81 f12))] := hD12
  clear hP11 hD10 hS11 hF10 hM10 hm12
  refine lv_aload_n hx hb d_16_1_46 rfl (lv_at hl 0 rfl) ?_
  refine lv_sipush (v := 4000) hx hb d_16_1_47 (by decide) ?_
  refine gnewaX (atype := .long) hx hb hts k_1_105 hP12 hS12 (by decide) (N' := 4000) (by decide) (Nat.le_of_ble_eq_true rfl) (Nat.le_of_ble_eq_true rfl) (Nat.le_of_ble_eq_true rfl) d_16_1_50 (fun q13 H13 hP13 hS13 => ?_)
  clear hP12 hS12
  refine W.widen (k := 7) (n := 4024) (Nat.le_of_ble_eq_true rfl) (Nat.le_of_ble_eq_true rfl) ?_
  refine gputFX hx hb hts inW_13 tyX13 tyX13_ok nmX13 hown hK hP13 hD12 hS13 0 rfl rfl hF12 14 (by decide) k_9_145 rfl hnm rfl rfl rfl d_16_1_52 (L' := []) rfl (fun f14 H14 locs14 hF14 hm14 hP14 hD14 hS14 => ?_)
  have hM14 := gM.tr hM12 hm14
  have hP14 : va_P D cls [(a0, .inr (13, rg 81 f14))] H14 := hP14
  have hD14 : va_D A [(a0, .inr (13, rg 81 f14))] := hD14
  clear hP13 hD12 hS13 hF12 hM12 hm14
  refine lv_aload_n hx hb d_16_1_55 rfl (lv_at hl 0 rfl) ?_
  refine lv_sipush (v := 4000) hx hb d_16_1_56 (by decide) ?_
  refine gnewaX (atype := .long) hx hb hts k_1_105 hP14 hS14 (by decide) (N' := 4000) (by decide) (Nat.le_of_ble_eq_true rfl) (Nat.le_of_ble_eq_true rfl) (Nat.le_of_ble_eq_true rfl) d_16_1_59 (fun q15 H15 hP15 hS15 => ?_)
  clear hP14 hS14
  refine W.widen (k := 8) (n := 8024) (Nat.le_of_ble_eq_true rfl) (Nat.le_of_ble_eq_true rfl) ?_
  refine gputFX hx hb hts inW_13 tyX13 tyX13_ok nmX13 hown hK hP15 hD14 hS15 0 rfl rfl hF14 15 (by decide) k_9_147 rfl hnm rfl rfl rfl d_16_1_61 (L' := []) rfl (fun f16 H16 locs16 hF16 hm16 hP16 hD16 hS16 => ?_)
  have hM16 := gM.tr hM14 hm16
  have hP16 : va_P D cls [(a0, .inr (13, rg 81 f16))] H16 := hP16
  have hD16 : va_D A [(a0, .inr (13, rg 81 f16))] := hD16
  clear hP15 hD14 hS15 hF14 hM14 hm16
  refine lv_aload_n hx hb d_16_1_64 rfl (lv_at hl 0 rfl) ?_
  refine lv_sipush (v := 4000) hx hb d_16_1_65 (by decide) ?_
  refine gnewaX (atype := .long) hx hb hts k_1_105 hP16 hS16 (by decide) (N' := 4000) (by decide) (Nat.le_of_ble_eq_true rfl) (Nat.le_of_ble_eq_true rfl) (Nat.le_of_ble_eq_true rfl) d_16_1_68 (fun q17 H17 hP17 hS17 => ?_)
  clear hP16 hS16
  refine W.widen (k := 9) (n := 12024) (Nat.le_of_ble_eq_true rfl) (Nat.le_of_ble_eq_true rfl) ?_
  refine gputFX hx hb hts inW_13 tyX13 tyX13_ok nmX13 hown hK hP17 hD16 hS17 0 rfl rfl hF16 16 (by decide) k_9_149 rfl hnm rfl rfl rfl d_16_1_70 (L' := []) rfl (fun f18 H18 locs18 hF18 hm18 hP18 hD18 hS18 => ?_)
  have hM18 := gM.tr hM16 hm18
  have hP18 : va_P D cls [(a0, .inr (13, rg 81 f18))] H18 := hP18
  have hD18 : va_D A [(a0, .inr (13, rg 81 f18))] := hD18
  clear hP17 hD16 hS17 hF16 hM16 hm18
  refine lv_aload_n hx hb d_16_1_73 rfl (lv_at hl 0 rfl) ?_
  refine lv_sipush (v := 4000) hx hb d_16_1_74 (by decide) ?_
  refine gnewaX (atype := .long) hx hb hts k_1_105 hP18 hS18 (by decide) (N' := 4000) (by decide) (Nat.le_of_ble_eq_true rfl) (Nat.le_of_ble_eq_true rfl) (Nat.le_of_ble_eq_true rfl) d_16_1_77 (fun q19 H19 hP19 hS19 => ?_)
  clear hP18 hS18
  refine W.widen (k := 10) (n := 16024) (Nat.le_of_ble_eq_true rfl) (Nat.le_of_ble_eq_true rfl) ?_
  refine gputFX hx hb hts inW_13 tyX13 tyX13_ok nmX13 hown hK hP19 hD18 hS19 0 rfl rfl hF18 17 (by decide) k_9_151 rfl hnm rfl rfl rfl d_16_1_79 (L' := []) rfl (fun f20 H20 locs20 hF20 hm20 hP20 hD20 hS20 => ?_)
  have hM20 := gM.tr hM18 hm20
  have hP20 : va_P D cls [(a0, .inr (13, rg 81 f20))] H20 := hP20
  have hD20 : va_D A [(a0, .inr (13, rg 81 f20))] := hD20
  clear hP19 hD18 hS19 hF18 hM18 hm20
  refine lv_aload_n hx hb d_16_1_82 rfl (lv_at hl 0 rfl) ?_
  refine lv_sipush (v := 4000) hx hb d_16_1_83 (by decide) ?_
  refine gnewaX (atype := .int) hx hb hts k_1_57 hP20 hS20 (by decide) (N' := 4000) (by decide) (Nat.le_of_ble_eq_true rfl) (Nat.le_of_ble_eq_true rfl) (Nat.le_of_ble_eq_true rfl) d_16_1_86 (fun q21 H21 hP21 hS21 => ?_)
  clear hP20 hS20
  refine W.widen (k := 11) (n := 20024) (Nat.le_of_ble_eq_true rfl) (Nat.le_of_ble_eq_true rfl) ?_
  refine gputFX hx hb hts inW_13 tyX13 tyX13_ok nmX13 hown hK hP21 hD20 hS21 0 rfl rfl hF20 18 (by decide) k_9_153 rfl hnm rfl rfl rfl d_16_1_88 (L' := []) rfl (fun f22 H22 locs22 hF22 hm22 hP22 hD22 hS22 => ?_)
  have hM22 := gM.tr hM20 hm22
  have hP22 : va_P D cls [(a0, .inr (13, rg 81 f22))] H22 := hP22
  have hD22 : va_D A [(a0, .inr (13, rg 81 f22))] := hD22
  clear hP21 hD20 hS21 hF20 hM20 hm22
  refine lv_aload_n hx hb d_16_1_91 rfl (lv_at hl 0 rfl) ?_
  refine lv_sipush (v := 4000) hx hb d_16_1_92 (by decide) ?_
  refine gnewaX (atype := .int) hx hb hts k_1_57 hP22 hS22 (by decide) (N' := 4000) (by decide) (Nat.le_of_ble_eq_true rfl) (Nat.le_of_ble_eq_true rfl) (Nat.le_of_ble_eq_true rfl) d_16_1_95 (fun q23 H23 hP23 hS23 => ?_)
  clear hP22 hS22
  refine W.widen (k := 12) (n := 24024) (Nat.le_of_ble_eq_true rfl) (Nat.le_of_ble_eq_true rfl) ?_
  refine gputFX hx hb hts inW_13 tyX13 tyX13_ok nmX13 hown hK hP23 hD22 hS23 0 rfl rfl hF22 19 (by decide) k_9_155 rfl hnm rfl rfl rfl d_16_1_97 (L' := []) rfl (fun f24 H24 locs24 hF24 hm24 hP24 hD24 hS24 => ?_)
  have hM24 := gM.tr hM22 hm24
  have hP24 : va_P D cls [(a0, .inr (13, rg 81 f24))] H24 := hP24
  have hD24 : va_D A [(a0, .inr (13, rg 81 f24))] := hD24
  clear hP23 hD22 hS23 hF22 hM22 hm24
  refine lv_aload_n hx hb d_16_1_100 rfl (lv_at hl 0 rfl) ?_
  refine lv_sipush (v := 4000) hx hb d_16_1_101 (by decide) ?_
  refine gnewaX (atype := .int) hx hb hts k_1_57 hP24 hS24 (by decide) (N' := 4000) (by decide) (Nat.le_of_ble_eq_true rfl) (Nat.le_of_ble_eq_true rfl) (Nat.le_of_ble_eq_true rfl) d_16_1_104 (fun q25 H25 hP25 hS25 => ?_)
  clear hP24 hS24
  refine W.widen (k := 13) (n := 28024) (Nat.le_of_ble_eq_true rfl) (Nat.le_of_ble_eq_true rfl) ?_
  refine gputFX hx hb hts inW_13 tyX13 tyX13_ok nmX13 hown hK hP25 hD24 hS25 0 rfl rfl hF24 20 (by decide) k_9_157 rfl hnm rfl rfl rfl d_16_1_106 (L' := []) rfl (fun f26 H26 locs26 hF26 hm26 hP26 hD26 hS26 => ?_)
  have hM26 := gM.tr hM24 hm26
  have hP26 : va_P D cls [(a0, .inr (13, rg 81 f26))] H26 := hP26
  have hD26 : va_D A [(a0, .inr (13, rg 81 f26))] := hD26
  clear hP25 hD24 hS25 hF24 hM24 hm26
  refine lv_aload_n hx hb d_16_1_109 rfl (lv_at hl 0 rfl) ?_
  refine lv_sipush (v := 4000) hx hb d_16_1_110 (by decide) ?_
  refine gnewaX (atype := .int) hx hb hts k_1_57 hP26 hS26 (by decide) (N' := 4000) (by decide) (Nat.le_of_ble_eq_true rfl) (Nat.le_of_ble_eq_true rfl) (Nat.le_of_ble_eq_true rfl) d_16_1_113 (fun q27 H27 hP27 hS27 => ?_)
  clear hP26 hS26
  refine W.widen (k := 14) (n := 32024) (Nat.le_of_ble_eq_true rfl) (Nat.le_of_ble_eq_true rfl) ?_
  refine gputFX hx hb hts inW_13 tyX13 tyX13_ok nmX13 hown hK hP27 hD26 hS27 0 rfl rfl hF26 21 (by decide) k_9_159 rfl hnm rfl rfl rfl d_16_1_115 (L' := []) rfl (fun f28 H28 locs28 hF28 hm28 hP28 hD28 hS28 => ?_)
  have hM28 := gM.tr hM26 hm28
  have hP28 : va_P D cls [(a0, .inr (13, rg 81 f28))] H28 := hP28
  have hD28 : va_D A [(a0, .inr (13, rg 81 f28))] := hD28
  clear hP27 hD26 hS27 hF26 hM26 hm28
  refine lv_aload_n hx hb d_16_1_118 rfl (lv_at hl 0 rfl) ?_
  refine lv_sipush (v := 4000) hx hb d_16_1_119 (by decide) ?_
  refine gnewaX (atype := .int) hx hb hts k_1_57 hP28 hS28 (by decide) (N' := 4000) (by decide) (Nat.le_of_ble_eq_true rfl) (Nat.le_of_ble_eq_true rfl) (Nat.le_of_ble_eq_true rfl) d_16_1_122 (fun q29 H29 hP29 hS29 => ?_)
  clear hP28 hS28
  refine W.widen (k := 15) (n := 36024) (Nat.le_of_ble_eq_true rfl) (Nat.le_of_ble_eq_true rfl) ?_
  refine gputFX hx hb hts inW_13 tyX13 tyX13_ok nmX13 hown hK hP29 hD28 hS29 0 rfl rfl hF28 22 (by decide) k_9_161 rfl hnm rfl rfl rfl d_16_1_124 (L' := []) rfl (fun f30 H30 locs30 hF30 hm30 hP30 hD30 hS30 => ?_)
  have hM30 := gM.tr hM28 hm30
  have hP30 : va_P D cls [(a0, .inr (13, rg 81 f30))] H30 := hP30
  have hD30 : va_D A [(a0, .inr (13, rg 81 f30))] := hD30
  clear hP29 hD28 hS29 hF28 hM28 hm30
  refine lv_aload_n hx hb d_16_1_127 rfl (lv_at hl 0 rfl) ?_
  refine lv_sipush (v := 4000) hx hb d_16_1_128 (by decide) ?_
  refine gnewaX (atype := .int) hx hb hts k_1_57 hP30 hS30 (by decide) (N' := 4000) (by decide) (Nat.le_of_ble_eq_true rfl) (Nat.le_of_ble_eq_true rfl) (Nat.le_of_ble_eq_true rfl) d_16_1_131 (fun q31 H31 hP31 hS31 => ?_)
  clear hP30 hS30
  refine W.widen (k := 16) (n := 40024) (Nat.le_of_ble_eq_true rfl) (Nat.le_of_ble_eq_true rfl) ?_
  refine gputFX hx hb hts inW_13 tyX13 tyX13_ok nmX13 hown hK hP31 hD30 hS31 0 rfl rfl hF30 23 (by decide) k_9_163 rfl hnm rfl rfl rfl d_16_1_133 (L' := []) rfl (fun f32 H32 locs32 hF32 hm32 hP32 hD32 hS32 => ?_)
  have hM32 := gM.tr hM30 hm32
  have hP32 : va_P D cls [(a0, .inr (13, rg 81 f32))] H32 := hP32
  have hD32 : va_D A [(a0, .inr (13, rg 81 f32))] := hD32
  clear hP31 hD30 hS31 hF30 hM30 hm32
  refine lv_aload_n hx hb d_16_1_136 rfl (lv_at hl 0 rfl) ?_
  refine lv_sipush (v := 4000) hx hb d_16_1_137 (by decide) ?_
  refine gnewaX (atype := .int) hx hb hts k_1_57 hP32 hS32 (by decide) (N' := 4000) (by decide) (Nat.le_of_ble_eq_true rfl) (Nat.le_of_ble_eq_true rfl) (Nat.le_of_ble_eq_true rfl) d_16_1_140 (fun q33 H33 hP33 hS33 => ?_)
  clear hP32 hS32
  refine W.widen (k := 17) (n := 44024) (Nat.le_of_ble_eq_true rfl) (Nat.le_of_ble_eq_true rfl) ?_
  refine gputFX hx hb hts inW_13 tyX13 tyX13_ok nmX13 hown hK hP33 hD32 hS33 0 rfl rfl hF32 24 (by decide) k_9_165 rfl hnm rfl rfl rfl d_16_1_142 (L' := []) rfl (fun f34 H34 locs34 hF34 hm34 hP34 hD34 hS34 => ?_)
  have hM34 := gM.tr hM32 hm34
  have hP34 : va_P D cls [(a0, .inr (13, rg 81 f34))] H34 := hP34
  have hD34 : va_D A [(a0, .inr (13, rg 81 f34))] := hD34
  clear hP33 hD32 hS33 hF32 hM32 hm34
  refine lv_aload_n hx hb d_16_1_145 rfl (lv_at hl 0 rfl) ?_
  refine lv_sipush (v := 4000) hx hb d_16_1_146 (by decide) ?_
  refine gnewaX (atype := .int) hx hb hts k_1_57 hP34 hS34 (by decide) (N' := 4000) (by decide) (Nat.le_of_ble_eq_true rfl) (Nat.le_of_ble_eq_true rfl) (Nat.le_of_ble_eq_true rfl) d_16_1_149 (fun q35 H35 hP35 hS35 => ?_)
  clear hP34 hS34
  refine W.widen (k := 18) (n := 48024) (Nat.le_of_ble_eq_true rfl) (Nat.le_of_ble_eq_true rfl) ?_
  refine gputFX hx hb hts inW_13 tyX13 tyX13_ok nmX13 hown hK hP35 hD34 hS35 0 rfl rfl hF34 25 (by decide) k_9_167 rfl hnm rfl rfl rfl d_16_1_151 (L' := []) rfl (fun f36 H36 locs36 hF36 hm36 hP36 hD36 hS36 => ?_)
  have hM36 := gM.tr hM34 hm36
  have hP36 : va_P D cls [(a0, .inr (13, rg 81 f36))] H36 := hP36
  have hD36 : va_D A [(a0, .inr (13, rg 81 f36))] := hD36
  clear hP35 hD34 hS35 hF34 hM34 hm36
  refine lv_aload_n hx hb d_16_1_154 rfl (lv_at hl 0 rfl) ?_
  refine lv_sipush (v := 4000) hx hb d_16_1_155 (by decide) ?_
  refine gnewaX (atype := .int) hx hb hts k_1_57 hP36 hS36 (by decide) (N' := 4000) (by decide) (Nat.le_of_ble_eq_true rfl) (Nat.le_of_ble_eq_true rfl) (Nat.le_of_ble_eq_true rfl) d_16_1_158 (fun q37 H37 hP37 hS37 => ?_)
  clear hP36 hS36
  refine W.widen (k := 19) (n := 52024) (Nat.le_of_ble_eq_true rfl) (Nat.le_of_ble_eq_true rfl) ?_
  refine gputFX hx hb hts inW_13 tyX13 tyX13_ok nmX13 hown hK hP37 hD36 hS37 0 rfl rfl hF36 26 (by decide) k_9_169 rfl hnm rfl rfl rfl d_16_1_160 (L' := []) rfl (fun f38 H38 locs38 hF38 hm38 hP38 hD38 hS38 => ?_)
  have hM38 := gM.tr hM36 hm38
  have hP38 : va_P D cls [(a0, .inr (13, rg 81 f38))] H38 := hP38
  have hD38 : va_D A [(a0, .inr (13, rg 81 f38))] := hD38
  clear hP37 hD36 hS37 hF36 hM36 hm38
  refine lv_aload_n hx hb d_16_1_163 rfl (lv_at hl 0 rfl) ?_
  refine lv_sipush (v := 4000) hx hb d_16_1_164 (by decide) ?_
  refine gnewaX (atype := .boolean) hx hb hts k_2_126 hP38 hS38 (by decide) (N' := 4000) (by decide) (Nat.le_of_ble_eq_true rfl) (Nat.le_of_ble_eq_true rfl) (Nat.le_of_ble_eq_true rfl) d_16_1_167 (fun q39 H39 hP39 hS39 => ?_)
  clear hP38 hS38
  refine W.widen (k := 20) (n := 56024) (Nat.le_of_ble_eq_true rfl) (Nat.le_of_ble_eq_true rfl) ?_
  refine gputFX hx hb hts inW_13 tyX13 tyX13_ok nmX13 hown hK hP39 hD38 hS39 0 rfl rfl hF38 27 (by decide) k_9_171 rfl hnm rfl rfl rfl d_16_1_169 (L' := []) rfl (fun f40 H40 locs40 hF40 hm40 hP40 hD40 hS40 => ?_)
  have hM40 := gM.tr hM38 hm40
  have hP40 : va_P D cls [(a0, .inr (13, rg 81 f40))] H40 := hP40
  have hD40 : va_D A [(a0, .inr (13, rg 81 f40))] := hD40
  clear hP39 hD38 hS39 hF38 hM38 hm40
  refine lv_aload_n hx hb d_16_1_172 rfl (lv_at hl 0 rfl) ?_
  refine lv_sipush (v := 24000) hx hb d_16_1_173 (by decide) ?_
  refine gnewaX (atype := .int) hx hb hts k_1_57 hP40 hS40 (by decide) (N' := 24000) (by decide) (Nat.le_of_ble_eq_true rfl) (Nat.le_of_ble_eq_true rfl) (Nat.le_of_ble_eq_true rfl) d_16_1_176 (fun q41 H41 hP41 hS41 => ?_)
  clear hP40 hS40
  refine W.widen (k := 21) (n := 80024) (Nat.le_of_ble_eq_true rfl) (Nat.le_of_ble_eq_true rfl) ?_
  refine gputFX hx hb hts inW_13 tyX13 tyX13_ok nmX13 hown hK hP41 hD40 hS41 0 rfl rfl hF40 28 (by decide) k_9_173 rfl hnm rfl rfl rfl d_16_1_178 (L' := []) rfl (fun f42 H42 locs42 hF42 hm42 hP42 hD42 hS42 => ?_)
  have hM42 := gM.tr hM40 hm42
  have hP42 : va_P D cls [(a0, .inr (13, rg 81 f42))] H42 := hP42
  have hD42 : va_D A [(a0, .inr (13, rg 81 f42))] := hD42
  clear hP41 hD40 hS41 hF40 hM40 hm42
  refine lv_aload_n hx hb d_16_1_181 rfl (lv_at hl 0 rfl) ?_
  refine lv_sipush (v := 24000) hx hb d_16_1_182 (by decide) ?_
  refine gnewaX (atype := .int) hx hb hts k_1_57 hP42 hS42 (by decide) (N' := 24000) (by decide) (Nat.le_of_ble_eq_true rfl) (Nat.le_of_ble_eq_true rfl) (Nat.le_of_ble_eq_true rfl) d_16_1_185 (fun q43 H43 hP43 hS43 => ?_)
  clear hP42 hS42
  refine W.widen (k := 22) (n := 104024) (Nat.le_of_ble_eq_true rfl) (Nat.le_of_ble_eq_true rfl) ?_
  refine gputFX hx hb hts inW_13 tyX13 tyX13_ok nmX13 hown hK hP43 hD42 hS43 0 rfl rfl hF42 29 (by decide) k_9_175 rfl hnm rfl rfl rfl d_16_1_187 (L' := []) rfl (fun f44 H44 locs44 hF44 hm44 hP44 hD44 hS44 => ?_)
  have hM44 := gM.tr hM42 hm44
  have hP44 : va_P D cls [(a0, .inr (13, rg 81 f44))] H44 := hP44
  have hD44 : va_D A [(a0, .inr (13, rg 81 f44))] := hD44
  clear hP43 hD42 hS43 hF42 hM42 hm44
  refine lv_aload_n hx hb d_16_1_190 rfl (lv_at hl 0 rfl) ?_
  refine lv_sipush (v := 3200) hx hb d_16_1_191 (by decide) ?_
  refine gnewaX (atype := .int) hx hb hts k_1_57 hP44 hS44 (by decide) (N' := 3200) (by decide) (Nat.le_of_ble_eq_true rfl) (Nat.le_of_ble_eq_true rfl) (Nat.le_of_ble_eq_true rfl) d_16_1_194 (fun q45 H45 hP45 hS45 => ?_)
  clear hP44 hS44
  refine W.widen (k := 23) (n := 107224) (Nat.le_of_ble_eq_true rfl) (Nat.le_of_ble_eq_true rfl) ?_
  refine gputFX hx hb hts inW_13 tyX13 tyX13_ok nmX13 hown hK hP45 hD44 hS45 0 rfl rfl hF44 30 (by decide) k_9_177 rfl hnm rfl rfl rfl d_16_1_196 (L' := []) rfl (fun f46 H46 locs46 hF46 hm46 hP46 hD46 hS46 => ?_)
  have hM46 := gM.tr hM44 hm46
  have hP46 : va_P D cls [(a0, .inr (13, rg 81 f46))] H46 := hP46
  have hD46 : va_D A [(a0, .inr (13, rg 81 f46))] := hD46
  clear hP45 hD44 hS45 hF44 hM44 hm46
  refine lv_aload_n hx hb d_16_1_199 rfl (lv_at hl 0 rfl) ?_
  refine lv_sipush (v := 3200) hx hb d_16_1_200 (by decide) ?_
  refine gnewaX (atype := .int) hx hb hts k_1_57 hP46 hS46 (by decide) (N' := 3200) (by decide) (Nat.le_of_ble_eq_true rfl) (Nat.le_of_ble_eq_true rfl) (Nat.le_of_ble_eq_true rfl) d_16_1_203 (fun q47 H47 hP47 hS47 => ?_)
  clear hP46 hS46
  refine W.widen (k := 24) (n := 110424) (Nat.le_of_ble_eq_true rfl) (Nat.le_of_ble_eq_true rfl) ?_
  refine gputFX hx hb hts inW_13 tyX13 tyX13_ok nmX13 hown hK hP47 hD46 hS47 0 rfl rfl hF46 31 (by decide) k_9_179 rfl hnm rfl rfl rfl d_16_1_205 (L' := []) rfl (fun f48 H48 locs48 hF48 hm48 hP48 hD48 hS48 => ?_)
  have hM48 := gM.tr hM46 hm48
  have hP48 : va_P D cls [(a0, .inr (13, rg 81 f48))] H48 := hP48
  have hD48 : va_D A [(a0, .inr (13, rg 81 f48))] := hD48
  clear hP47 hD46 hS47 hF46 hM46 hm48
  refine lv_aload_n hx hb d_16_1_208 rfl (lv_at hl 0 rfl) ?_
  refine lv_sipush (v := 3200) hx hb d_16_1_209 (by decide) ?_
  refine gnewaX (atype := .long) hx hb hts k_1_105 hP48 hS48 (by decide) (N' := 3200) (by decide) (Nat.le_of_ble_eq_true rfl) (Nat.le_of_ble_eq_true rfl) (Nat.le_of_ble_eq_true rfl) d_16_1_212 (fun q49 H49 hP49 hS49 => ?_)
  clear hP48 hS48
  refine W.widen (k := 25) (n := 113624) (Nat.le_of_ble_eq_true rfl) (Nat.le_of_ble_eq_true rfl) ?_
  refine gputFX hx hb hts inW_13 tyX13 tyX13_ok nmX13 hown hK hP49 hD48 hS49 0 rfl rfl hF48 32 (by decide) k_9_181 rfl hnm rfl rfl rfl d_16_1_214 (L' := []) rfl (fun f50 H50 locs50 hF50 hm50 hP50 hD50 hS50 => ?_)
  have hM50 := gM.tr hM48 hm50
  have hP50 : va_P D cls [(a0, .inr (13, rg 81 f50))] H50 := hP50
  have hD50 : va_D A [(a0, .inr (13, rg 81 f50))] := hD50
  clear hP49 hD48 hS49 hF48 hM48 hm50
  refine lv_aload_n hx hb d_16_1_217 rfl (lv_at hl 0 rfl) ?_
  refine lv_sipush (v := 3200) hx hb d_16_1_218 (by decide) ?_
  refine gnewaX (atype := .long) hx hb hts k_1_105 hP50 hS50 (by decide) (N' := 3200) (by decide) (Nat.le_of_ble_eq_true rfl) (Nat.le_of_ble_eq_true rfl) (Nat.le_of_ble_eq_true rfl) d_16_1_221 (fun q51 H51 hP51 hS51 => ?_)
  clear hP50 hS50
  refine W.widen (k := 26) (n := 116824) (Nat.le_of_ble_eq_true rfl) (Nat.le_of_ble_eq_true rfl) ?_
  refine gputFX hx hb hts inW_13 tyX13 tyX13_ok nmX13 hown hK hP51 hD50 hS51 0 rfl rfl hF50 33 (by decide) k_9_183 rfl hnm rfl rfl rfl d_16_1_223 (L' := []) rfl (fun f52 H52 locs52 hF52 hm52 hP52 hD52 hS52 => ?_)
  have hM52 := gM.tr hM50 hm52
  have hP52 : va_P D cls [(a0, .inr (13, rg 81 f52))] H52 := hP52
  have hD52 : va_D A [(a0, .inr (13, rg 81 f52))] := hD52
  clear hP51 hD50 hS51 hF50 hM50 hm52
  refine lv_aload_n hx hb d_16_1_226 rfl (lv_at hl 0 rfl) ?_
  refine lv_sipush (v := 3200) hx hb d_16_1_227 (by decide) ?_
  refine gnewaX (atype := .int) hx hb hts k_1_57 hP52 hS52 (by decide) (N' := 3200) (by decide) (Nat.le_of_ble_eq_true rfl) (Nat.le_of_ble_eq_true rfl) (Nat.le_of_ble_eq_true rfl) d_16_1_230 (fun q53 H53 hP53 hS53 => ?_)
  clear hP52 hS52
  refine W.widen (k := 27) (n := 120024) (Nat.le_of_ble_eq_true rfl) (Nat.le_of_ble_eq_true rfl) ?_
  refine gputFX hx hb hts inW_13 tyX13 tyX13_ok nmX13 hown hK hP53 hD52 hS53 0 rfl rfl hF52 34 (by decide) k_9_185 rfl hnm rfl rfl rfl d_16_1_232 (L' := []) rfl (fun f54 H54 locs54 hF54 hm54 hP54 hD54 hS54 => ?_)
  have hM54 := gM.tr hM52 hm54
  have hP54 : va_P D cls [(a0, .inr (13, rg 81 f54))] H54 := hP54
  have hD54 : va_D A [(a0, .inr (13, rg 81 f54))] := hD54
  clear hP53 hD52 hS53 hF52 hM52 hm54
  refine lv_aload_n hx hb d_16_1_235 rfl (lv_at hl 0 rfl) ?_
  refine lv_sipush (v := 3200) hx hb d_16_1_236 (by decide) ?_
  refine gnewaX (atype := .int) hx hb hts k_1_57 hP54 hS54 (by decide) (N' := 3200) (by decide) (Nat.le_of_ble_eq_true rfl) (Nat.le_of_ble_eq_true rfl) (Nat.le_of_ble_eq_true rfl) d_16_1_239 (fun q55 H55 hP55 hS55 => ?_)
  clear hP54 hS54
  refine W.widen (k := 28) (n := 123224) (Nat.le_of_ble_eq_true rfl) (Nat.le_of_ble_eq_true rfl) ?_
  refine gputFX hx hb hts inW_13 tyX13 tyX13_ok nmX13 hown hK hP55 hD54 hS55 0 rfl rfl hF54 35 (by decide) k_9_187 rfl hnm rfl rfl rfl d_16_1_241 (L' := []) rfl (fun f56 H56 locs56 hF56 hm56 hP56 hD56 hS56 => ?_)
  have hM56 := gM.tr hM54 hm56
  have hP56 : va_P D cls [(a0, .inr (13, rg 81 f56))] H56 := hP56
  have hD56 : va_D A [(a0, .inr (13, rg 81 f56))] := hD56
  clear hP55 hD54 hS55 hF54 hM54 hm56
  refine lv_aload_n hx hb d_16_1_244 rfl (lv_at hl 0 rfl) ?_
  refine lv_sipush (v := 3200) hx hb d_16_1_245 (by decide) ?_
  refine gnewaX (atype := .int) hx hb hts k_1_57 hP56 hS56 (by decide) (N' := 3200) (by decide) (Nat.le_of_ble_eq_true rfl) (Nat.le_of_ble_eq_true rfl) (Nat.le_of_ble_eq_true rfl) d_16_1_248 (fun q57 H57 hP57 hS57 => ?_)
  clear hP56 hS56
  refine W.widen (k := 29) (n := 126424) (Nat.le_of_ble_eq_true rfl) (Nat.le_of_ble_eq_true rfl) ?_
  refine gputFX hx hb hts inW_13 tyX13 tyX13_ok nmX13 hown hK hP57 hD56 hS57 0 rfl rfl hF56 36 (by decide) k_9_189 rfl hnm rfl rfl rfl d_16_1_250 (L' := []) rfl (fun f58 H58 locs58 hF58 hm58 hP58 hD58 hS58 => ?_)
  have hM58 := gM.tr hM56 hm58
  have hP58 : va_P D cls [(a0, .inr (13, rg 81 f58))] H58 := hP58
  have hD58 : va_D A [(a0, .inr (13, rg 81 f58))] := hD58
  clear hP57 hD56 hS57 hF56 hM56 hm58
  refine lv_aload_n hx hb d_16_1_253 rfl (lv_at hl 0 rfl) ?_
  refine lv_sipush (v := 3200) hx hb d_16_1_254 (by decide) ?_
  refine gnewaX (atype := .int) hx hb hts k_1_57 hP58 hS58 (by decide) (N' := 3200) (by decide) (Nat.le_of_ble_eq_true rfl) (Nat.le_of_ble_eq_true rfl) (Nat.le_of_ble_eq_true rfl) d_16_1_257 (fun q59 H59 hP59 hS59 => ?_)
  clear hP58 hS58
  refine W.widen (k := 30) (n := 129624) (Nat.le_of_ble_eq_true rfl) (Nat.le_of_ble_eq_true rfl) ?_
  refine gputFX hx hb hts inW_13 tyX13 tyX13_ok nmX13 hown hK hP59 hD58 hS59 0 rfl rfl hF58 37 (by decide) k_9_191 rfl hnm rfl rfl rfl d_16_1_259 (L' := []) rfl (fun f60 H60 locs60 hF60 hm60 hP60 hD60 hS60 => ?_)
  have hM60 := gM.tr hM58 hm60
  have hP60 : va_P D cls [(a0, .inr (13, rg 81 f60))] H60 := hP60
  have hD60 : va_D A [(a0, .inr (13, rg 81 f60))] := hD60
  clear hP59 hD58 hS59 hF58 hM58 hm60
  refine lv_aload_n hx hb d_16_1_262 rfl (lv_at hl 0 rfl) ?_
  refine lv_sipush (v := 3200) hx hb d_16_1_263 (by decide) ?_
  refine gnewaX (atype := .int) hx hb hts k_1_57 hP60 hS60 (by decide) (N' := 3200) (by decide) (Nat.le_of_ble_eq_true rfl) (Nat.le_of_ble_eq_true rfl) (Nat.le_of_ble_eq_true rfl) d_16_1_266 (fun q61 H61 hP61 hS61 => ?_)
  clear hP60 hS60
  refine W.widen (k := 31) (n := 132824) (Nat.le_of_ble_eq_true rfl) (Nat.le_of_ble_eq_true rfl) ?_
  refine gputFX hx hb hts inW_13 tyX13 tyX13_ok nmX13 hown hK hP61 hD60 hS61 0 rfl rfl hF60 38 (by decide) k_9_193 rfl hnm rfl rfl rfl d_16_1_268 (L' := []) rfl (fun f62 H62 locs62 hF62 hm62 hP62 hD62 hS62 => ?_)
  have hM62 := gM.tr hM60 hm62
  have hP62 : va_P D cls [(a0, .inr (13, rg 81 f62))] H62 := hP62
  have hD62 : va_D A [(a0, .inr (13, rg 81 f62))] := hD62
  clear hP61 hD60 hS61 hF60 hM60 hm62
  refine lv_aload_n hx hb d_16_1_271 rfl (lv_at hl 0 rfl) ?_
  refine lv_sipush (v := 3200) hx hb d_16_1_272 (by decide) ?_
  refine gnewaX (atype := .int) hx hb hts k_1_57 hP62 hS62 (by decide) (N' := 3200) (by decide) (Nat.le_of_ble_eq_true rfl) (Nat.le_of_ble_eq_true rfl) (Nat.le_of_ble_eq_true rfl) d_16_1_275 (fun q63 H63 hP63 hS63 => ?_)
  clear hP62 hS62
  refine W.widen (k := 32) (n := 136024) (Nat.le_of_ble_eq_true rfl) (Nat.le_of_ble_eq_true rfl) ?_
  refine gputFX hx hb hts inW_13 tyX13 tyX13_ok nmX13 hown hK hP63 hD62 hS63 0 rfl rfl hF62 39 (by decide) k_9_195 rfl hnm rfl rfl rfl d_16_1_277 (L' := []) rfl (fun f64 H64 locs64 hF64 hm64 hP64 hD64 hS64 => ?_)
  have hM64 := gM.tr hM62 hm64
  have hP64 : va_P D cls [(a0, .inr (13, rg 81 f64))] H64 := hP64
  have hD64 : va_D A [(a0, .inr (13, rg 81 f64))] := hD64
  clear hP63 hD62 hS63 hF62 hM62 hm64
  refine lv_aload_n hx hb d_16_1_280 rfl (lv_at hl 0 rfl) ?_
  refine lv_sipush (v := 3200) hx hb d_16_1_281 (by decide) ?_
  refine gnewaX (atype := .int) hx hb hts k_1_57 hP64 hS64 (by decide) (N' := 3200) (by decide) (Nat.le_of_ble_eq_true rfl) (Nat.le_of_ble_eq_true rfl) (Nat.le_of_ble_eq_true rfl) d_16_1_284 (fun q65 H65 hP65 hS65 => ?_)
  clear hP64 hS64
  refine W.widen (k := 33) (n := 139224) (Nat.le_of_ble_eq_true rfl) (Nat.le_of_ble_eq_true rfl) ?_
  refine gputFX hx hb hts inW_13 tyX13 tyX13_ok nmX13 hown hK hP65 hD64 hS65 0 rfl rfl hF64 40 (by decide) k_9_197 rfl hnm rfl rfl rfl d_16_1_286 (L' := []) rfl (fun f66 H66 locs66 hF66 hm66 hP66 hD66 hS66 => ?_)
  have hM66 := gM.tr hM64 hm66
  have hP66 : va_P D cls [(a0, .inr (13, rg 81 f66))] H66 := hP66
  have hD66 : va_D A [(a0, .inr (13, rg 81 f66))] := hD66
  clear hP65 hD64 hS65 hF64 hM64 hm66
  refine lv_aload_n hx hb d_16_1_289 rfl (lv_at hl 0 rfl) ?_
  refine lv_sipush (v := 3200) hx hb d_16_1_290 (by decide) ?_
  refine gnewaX (atype := .int) hx hb hts k_1_57 hP66 hS66 (by decide) (N' := 3200) (by decide) (Nat.le_of_ble_eq_true rfl) (Nat.le_of_ble_eq_true rfl) (Nat.le_of_ble_eq_true rfl) d_16_1_293 (fun q67 H67 hP67 hS67 => ?_)
  clear hP66 hS66
  refine W.widen (k := 34) (n := 142424) (Nat.le_of_ble_eq_true rfl) (Nat.le_of_ble_eq_true rfl) ?_
  refine gputFX hx hb hts inW_13 tyX13 tyX13_ok nmX13 hown hK hP67 hD66 hS67 0 rfl rfl hF66 41 (by decide) k_9_199 rfl hnm rfl rfl rfl d_16_1_295 (L' := []) rfl (fun f68 H68 locs68 hF68 hm68 hP68 hD68 hS68 => ?_)
  have hM68 := gM.tr hM66 hm68
  have hP68 : va_P D cls [(a0, .inr (13, rg 81 f68))] H68 := hP68
  have hD68 : va_D A [(a0, .inr (13, rg 81 f68))] := hD68
  clear hP67 hD66 hS67 hF66 hM66 hm68
  refine lv_aload_n hx hb d_16_1_298 rfl (lv_at hl 0 rfl) ?_
  refine lv_bipush (v := 101) hx hb d_16_1_299 (by decide) ?_
  refine gnewaX (atype := .int) hx hb hts k_1_57 hP68 hS68 (by decide) (N' := 101) (by decide) (Nat.le_of_ble_eq_true rfl) (Nat.le_of_ble_eq_true rfl) (Nat.le_of_ble_eq_true rfl) d_16_1_301 (fun q69 H69 hP69 hS69 => ?_)
  clear hP68 hS68
  refine W.widen (k := 35) (n := 142525) (Nat.le_of_ble_eq_true rfl) (Nat.le_of_ble_eq_true rfl) ?_
  refine gputFX hx hb hts inW_13 tyX13 tyX13_ok nmX13 hown hK hP69 hD68 hS69 0 rfl rfl hF68 42 (by decide) k_9_201 rfl hnm rfl rfl rfl d_16_1_303 (L' := []) rfl (fun f70 H70 locs70 hF70 hm70 hP70 hD70 hS70 => ?_)
  have hM70 := gM.tr hM68 hm70
  have hP70 : va_P D cls [(a0, .inr (13, rg 81 f70))] H70 := hP70
  have hD70 : va_D A [(a0, .inr (13, rg 81 f70))] := hD70
  clear hP69 hD68 hS69 hF68 hM68 hm70
  refine lv_aload_n hx hb d_16_1_306 rfl (lv_at hl 0 rfl) ?_
  refine lv_sipush (v := 3200) hx hb d_16_1_307 (by decide) ?_
  refine gnewaX (atype := .long) hx hb hts k_1_105 hP70 hS70 (by decide) (N' := 3200) (by decide) (Nat.le_of_ble_eq_true rfl) (Nat.le_of_ble_eq_true rfl) (Nat.le_of_ble_eq_true rfl) d_16_1_310 (fun q71 H71 hP71 hS71 => ?_)
  clear hP70 hS70
  refine W.widen (k := 36) (n := 145725) (Nat.le_of_ble_eq_true rfl) (Nat.le_of_ble_eq_true rfl) ?_
  refine gputFX hx hb hts inW_13 tyX13 tyX13_ok nmX13 hown hK hP71 hD70 hS71 0 rfl rfl hF70 43 (by decide) k_9_203 rfl hnm rfl rfl rfl d_16_1_312 (L' := []) rfl (fun f72 H72 locs72 hF72 hm72 hP72 hD72 hS72 => ?_)
  have hM72 := gM.tr hM70 hm72
  have hP72 : va_P D cls [(a0, .inr (13, rg 81 f72))] H72 := hP72
  have hD72 : va_D A [(a0, .inr (13, rg 81 f72))] := hD72
  clear hP71 hD70 hS71 hF70 hM70 hm72
  refine lv_aload_n hx hb d_16_1_315 rfl (lv_at hl 0 rfl) ?_
  refine lv_sipush (v := 3200) hx hb d_16_1_316 (by decide) ?_
  refine gnewaX (atype := .long) hx hb hts k_1_105 hP72 hS72 (by decide) (N' := 3200) (by decide) (Nat.le_of_ble_eq_true rfl) (Nat.le_of_ble_eq_true rfl) (Nat.le_of_ble_eq_true rfl) d_16_1_319 (fun q73 H73 hP73 hS73 => ?_)
  clear hP72 hS72
  refine W.widen (k := 37) (n := 148925) (Nat.le_of_ble_eq_true rfl) (Nat.le_of_ble_eq_true rfl) ?_
  refine gputFX hx hb hts inW_13 tyX13 tyX13_ok nmX13 hown hK hP73 hD72 hS73 0 rfl rfl hF72 44 (by decide) k_9_205 rfl hnm rfl rfl rfl d_16_1_321 (L' := []) rfl (fun f74 H74 locs74 hF74 hm74 hP74 hD74 hS74 => ?_)
  have hM74 := gM.tr hM72 hm74
  have hP74 : va_P D cls [(a0, .inr (13, rg 81 f74))] H74 := hP74
  have hD74 : va_D A [(a0, .inr (13, rg 81 f74))] := hD74
  clear hP73 hD72 hS73 hF72 hM72 hm74
  refine lv_aload_n hx hb d_16_1_324 rfl (lv_at hl 0 rfl) ?_
  refine lv_sipush (v := 3200) hx hb d_16_1_325 (by decide) ?_
  refine gnewaX (atype := .int) hx hb hts k_1_57 hP74 hS74 (by decide) (N' := 3200) (by decide) (Nat.le_of_ble_eq_true rfl) (Nat.le_of_ble_eq_true rfl) (Nat.le_of_ble_eq_true rfl) d_16_1_328 (fun q75 H75 hP75 hS75 => ?_)
  clear hP74 hS74
  refine W.widen (k := 38) (n := 152125) (Nat.le_of_ble_eq_true rfl) (Nat.le_of_ble_eq_true rfl) ?_
  refine gputFX hx hb hts inW_13 tyX13 tyX13_ok nmX13 hown hK hP75 hD74 hS75 0 rfl rfl hF74 45 (by decide) k_9_207 rfl hnm rfl rfl rfl d_16_1_330 (L' := []) rfl (fun f76 H76 locs76 hF76 hm76 hP76 hD76 hS76 => ?_)
  have hM76 := gM.tr hM74 hm76
  have hP76 : va_P D cls [(a0, .inr (13, rg 81 f76))] H76 := hP76
  have hD76 : va_D A [(a0, .inr (13, rg 81 f76))] := hD76
  clear hP75 hD74 hS75 hF74 hM74 hm76
  refine lv_aload_n hx hb d_16_1_333 rfl (lv_at hl 0 rfl) ?_
  refine lv_bipush (v := 100) hx hb d_16_1_334 (by decide) ?_
  refine gnewaX (atype := .int) hx hb hts k_1_57 hP76 hS76 (by decide) (N' := 100) (by decide) (Nat.le_of_ble_eq_true rfl) (Nat.le_of_ble_eq_true rfl) (Nat.le_of_ble_eq_true rfl) d_16_1_336 (fun q77 H77 hP77 hS77 => ?_)
  clear hP76 hS76
  refine W.widen (k := 39) (n := 152225) (Nat.le_of_ble_eq_true rfl) (Nat.le_of_ble_eq_true rfl) ?_
  refine gputFX hx hb hts inW_13 tyX13 tyX13_ok nmX13 hown hK hP77 hD76 hS77 0 rfl rfl hF76 46 (by decide) k_9_209 rfl hnm rfl rfl rfl d_16_1_338 (L' := []) rfl (fun f78 H78 locs78 hF78 hm78 hP78 hD78 hS78 => ?_)
  have hM78 := gM.tr hM76 hm78
  have hP78 : va_P D cls [(a0, .inr (13, rg 81 f78))] H78 := hP78
  have hD78 : va_D A [(a0, .inr (13, rg 81 f78))] := hD78
  clear hP77 hD76 hS77 hF76 hM76 hm78
  refine lv_aload_n hx hb d_16_1_341 rfl (lv_at hl 0 rfl) ?_
  refine lv_bipush (v := 100) hx hb d_16_1_342 (by decide) ?_
  refine gnewaX (atype := .int) hx hb hts k_1_57 hP78 hS78 (by decide) (N' := 100) (by decide) (Nat.le_of_ble_eq_true rfl) (Nat.le_of_ble_eq_true rfl) (Nat.le_of_ble_eq_true rfl) d_16_1_344 (fun q79 H79 hP79 hS79 => ?_)
  clear hP78 hS78
  refine W.widen (k := 40) (n := 152325) (Nat.le_of_ble_eq_true rfl) (Nat.le_of_ble_eq_true rfl) ?_
  refine gputFX hx hb hts inW_13 tyX13 tyX13_ok nmX13 hown hK hP79 hD78 hS79 0 rfl rfl hF78 49 (by decide) k_9_213 rfl hnm rfl rfl rfl d_16_1_346 (L' := []) rfl (fun f80 H80 locs80 hF80 hm80 hP80 hD80 hS80 => ?_)
  have hM80 := gM.tr hM78 hm80
  have hP80 : va_P D cls [(a0, .inr (13, rg 81 f80))] H80 := hP80
  have hD80 : va_D A [(a0, .inr (13, rg 81 f80))] := hD80
  clear hP79 hD78 hS79 hF78 hM78 hm80
  refine lv_aload_n hx hb d_16_1_349 rfl (lv_at hl 0 rfl) ?_
  refine lv_bipush (v := 100) hx hb d_16_1_350 (by decide) ?_
  refine gnewaX (atype := .int) hx hb hts k_1_57 hP80 hS80 (by decide) (N' := 100) (by decide) (Nat.le_of_ble_eq_true rfl) (Nat.le_of_ble_eq_true rfl) (Nat.le_of_ble_eq_true rfl) d_16_1_352 (fun q81 H81 hP81 hS81 => ?_)
  clear hP80 hS80
  refine W.widen (k := 41) (n := 152425) (Nat.le_of_ble_eq_true rfl) (Nat.le_of_ble_eq_true rfl) ?_
  refine gputFX hx hb hts inW_13 tyX13 tyX13_ok nmX13 hown hK hP81 hD80 hS81 0 rfl rfl hF80 50 (by decide) k_9_215 rfl hnm rfl rfl rfl d_16_1_354 (L' := []) rfl (fun f82 H82 locs82 hF82 hm82 hP82 hD82 hS82 => ?_)
  have hM82 := gM.tr hM80 hm82
  have hP82 : va_P D cls [(a0, .inr (13, rg 81 f82))] H82 := hP82
  have hD82 : va_D A [(a0, .inr (13, rg 81 f82))] := hD82
  clear hP81 hD80 hS81 hF80 hM80 hm82
  refine lv_aload_n hx hb d_16_1_357 rfl (lv_at hl 0 rfl) ?_
  refine lv_bipush (v := 100) hx hb d_16_1_358 (by decide) ?_
  refine gnewaX (atype := .int) hx hb hts k_1_57 hP82 hS82 (by decide) (N' := 100) (by decide) (Nat.le_of_ble_eq_true rfl) (Nat.le_of_ble_eq_true rfl) (Nat.le_of_ble_eq_true rfl) d_16_1_360 (fun q83 H83 hP83 hS83 => ?_)
  clear hP82 hS82
  refine W.widen (k := 42) (n := 152525) (Nat.le_of_ble_eq_true rfl) (Nat.le_of_ble_eq_true rfl) ?_
  refine gputFX hx hb hts inW_13 tyX13 tyX13_ok nmX13 hown hK hP83 hD82 hS83 0 rfl rfl hF82 51 (by decide) k_9_217 rfl hnm rfl rfl rfl d_16_1_362 (L' := []) rfl (fun f84 H84 locs84 hF84 hm84 hP84 hD84 hS84 => ?_)
  have hM84 := gM.tr hM82 hm84
  have hP84 : va_P D cls [(a0, .inr (13, rg 81 f84))] H84 := hP84
  have hD84 : va_D A [(a0, .inr (13, rg 81 f84))] := hD84
  clear hP83 hD82 hS83 hF82 hM82 hm84
  refine lv_aload_n hx hb d_16_1_365 rfl (lv_at hl 0 rfl) ?_
  refine lv_bipush (v := 100) hx hb d_16_1_366 (by decide) ?_
  refine gnewaX (atype := .long) hx hb hts k_1_105 hP84 hS84 (by decide) (N' := 100) (by decide) (Nat.le_of_ble_eq_true rfl) (Nat.le_of_ble_eq_true rfl) (Nat.le_of_ble_eq_true rfl) d_16_1_368 (fun q85 H85 hP85 hS85 => ?_)
  clear hP84 hS84
  refine W.widen (k := 43) (n := 152625) (Nat.le_of_ble_eq_true rfl) (Nat.le_of_ble_eq_true rfl) ?_
  refine gputFX hx hb hts inW_13 tyX13 tyX13_ok nmX13 hown hK hP85 hD84 hS85 0 rfl rfl hF84 52 (by decide) k_9_219 rfl hnm rfl rfl rfl d_16_1_370 (L' := []) rfl (fun f86 H86 locs86 hF86 hm86 hP86 hD86 hS86 => ?_)
  have hM86 := gM.tr hM84 hm86
  have hP86 : va_P D cls [(a0, .inr (13, rg 81 f86))] H86 := hP86
  have hD86 : va_D A [(a0, .inr (13, rg 81 f86))] := hD86
  clear hP85 hD84 hS85 hF84 hM84 hm86
  refine lv_aload_n hx hb d_16_1_373 rfl (lv_at hl 0 rfl) ?_
  refine lv_sipush (v := 2000) hx hb d_16_1_374 (by decide) ?_
  refine gnewaX (atype := .int) hx hb hts k_1_57 hP86 hS86 (by decide) (N' := 2000) (by decide) (Nat.le_of_ble_eq_true rfl) (Nat.le_of_ble_eq_true rfl) (Nat.le_of_ble_eq_true rfl) d_16_1_377 (fun q87 H87 hP87 hS87 => ?_)
  clear hP86 hS86
  refine W.widen (k := 44) (n := 154625) (Nat.le_of_ble_eq_true rfl) (Nat.le_of_ble_eq_true rfl) ?_
  refine gputFX hx hb hts inW_13 tyX13 tyX13_ok nmX13 hown hK hP87 hD86 hS87 0 rfl rfl hF86 55 (by decide) k_9_223 rfl hnm rfl rfl rfl d_16_1_379 (L' := []) rfl (fun f88 H88 locs88 hF88 hm88 hP88 hD88 hS88 => ?_)
  have hM88 := gM.tr hM86 hm88
  have hP88 : va_P D cls [(a0, .inr (13, rg 81 f88))] H88 := hP88
  have hD88 : va_D A [(a0, .inr (13, rg 81 f88))] := hD88
  clear hP87 hD86 hS87 hF86 hM86 hm88
  refine lv_aload_n hx hb d_16_1_382 rfl (lv_at hl 0 rfl) ?_
  refine lv_sipush (v := 2000) hx hb d_16_1_383 (by decide) ?_
  refine gnewaX (atype := .int) hx hb hts k_1_57 hP88 hS88 (by decide) (N' := 2000) (by decide) (Nat.le_of_ble_eq_true rfl) (Nat.le_of_ble_eq_true rfl) (Nat.le_of_ble_eq_true rfl) d_16_1_386 (fun q89 H89 hP89 hS89 => ?_)
  clear hP88 hS88
  refine W.widen (k := 45) (n := 156625) (Nat.le_of_ble_eq_true rfl) (Nat.le_of_ble_eq_true rfl) ?_
  refine gputFX hx hb hts inW_13 tyX13 tyX13_ok nmX13 hown hK hP89 hD88 hS89 0 rfl rfl hF88 56 (by decide) k_9_225 rfl hnm rfl rfl rfl d_16_1_388 (L' := []) rfl (fun f90 H90 locs90 hF90 hm90 hP90 hD90 hS90 => ?_)
  have hM90 := gM.tr hM88 hm90
  have hP90 : va_P D cls [(a0, .inr (13, rg 81 f90))] H90 := hP90
  have hD90 : va_D A [(a0, .inr (13, rg 81 f90))] := hD90
  clear hP89 hD88 hS89 hF88 hM88 hm90
  refine lv_aload_n hx hb d_16_1_391 rfl (lv_at hl 0 rfl) ?_
  refine lv_sipush (v := 2000) hx hb d_16_1_392 (by decide) ?_
  refine gnewaX (atype := .int) hx hb hts k_1_57 hP90 hS90 (by decide) (N' := 2000) (by decide) (Nat.le_of_ble_eq_true rfl) (Nat.le_of_ble_eq_true rfl) (Nat.le_of_ble_eq_true rfl) d_16_1_395 (fun q91 H91 hP91 hS91 => ?_)
  clear hP90 hS90
  refine W.widen (k := 46) (n := 158625) (Nat.le_of_ble_eq_true rfl) (Nat.le_of_ble_eq_true rfl) ?_
  refine gputFX hx hb hts inW_13 tyX13 tyX13_ok nmX13 hown hK hP91 hD90 hS91 0 rfl rfl hF90 57 (by decide) k_9_227 rfl hnm rfl rfl rfl d_16_1_397 (L' := []) rfl (fun f92 H92 locs92 hF92 hm92 hP92 hD92 hS92 => ?_)
  have hM92 := gM.tr hM90 hm92
  have hP92 : va_P D cls [(a0, .inr (13, rg 81 f92))] H92 := hP92
  have hD92 : va_D A [(a0, .inr (13, rg 81 f92))] := hD92
  clear hP91 hD90 hS91 hF90 hM90 hm92
  refine lv_aload_n hx hb d_16_1_400 rfl (lv_at hl 0 rfl) ?_
  refine lv_sipush (v := 2000) hx hb d_16_1_401 (by decide) ?_
  refine gnewaX (atype := .int) hx hb hts k_1_57 hP92 hS92 (by decide) (N' := 2000) (by decide) (Nat.le_of_ble_eq_true rfl) (Nat.le_of_ble_eq_true rfl) (Nat.le_of_ble_eq_true rfl) d_16_1_404 (fun q93 H93 hP93 hS93 => ?_)
  clear hP92 hS92
  refine W.widen (k := 47) (n := 160625) (Nat.le_of_ble_eq_true rfl) (Nat.le_of_ble_eq_true rfl) ?_
  refine gputFX hx hb hts inW_13 tyX13 tyX13_ok nmX13 hown hK hP93 hD92 hS93 0 rfl rfl hF92 58 (by decide) k_9_229 rfl hnm rfl rfl rfl d_16_1_406 (L' := []) rfl (fun f94 H94 locs94 hF94 hm94 hP94 hD94 hS94 => ?_)
  have hM94 := gM.tr hM92 hm94
  have hP94 : va_P D cls [(a0, .inr (13, rg 81 f94))] H94 := hP94
  have hD94 : va_D A [(a0, .inr (13, rg 81 f94))] := hD94
  clear hP93 hD92 hS93 hF92 hM92 hm94
  refine lv_aload_n hx hb d_16_1_409 rfl (lv_at hl 0 rfl) ?_
  refine lv_sipush (v := 2000) hx hb d_16_1_410 (by decide) ?_
  refine gnewaX (atype := .int) hx hb hts k_1_57 hP94 hS94 (by decide) (N' := 2000) (by decide) (Nat.le_of_ble_eq_true rfl) (Nat.le_of_ble_eq_true rfl) (Nat.le_of_ble_eq_true rfl) d_16_1_413 (fun q95 H95 hP95 hS95 => ?_)
  clear hP94 hS94
  refine W.widen (k := 48) (n := 162625) (Nat.le_of_ble_eq_true rfl) (Nat.le_of_ble_eq_true rfl) ?_
  refine gputFX hx hb hts inW_13 tyX13 tyX13_ok nmX13 hown hK hP95 hD94 hS95 0 rfl rfl hF94 59 (by decide) k_9_231 rfl hnm rfl rfl rfl d_16_1_415 (L' := []) rfl (fun f96 H96 locs96 hF96 hm96 hP96 hD96 hS96 => ?_)
  have hM96 := gM.tr hM94 hm96
  have hP96 : va_P D cls [(a0, .inr (13, rg 81 f96))] H96 := hP96
  have hD96 : va_D A [(a0, .inr (13, rg 81 f96))] := hD96
  clear hP95 hD94 hS95 hF94 hM94 hm96
  refine lv_aload_n hx hb d_16_1_418 rfl (lv_at hl 0 rfl) ?_
  refine lv_sipush (v := 4000) hx hb d_16_1_419 (by decide) ?_
  refine gnewaX (atype := .int) hx hb hts k_1_57 hP96 hS96 (by decide) (N' := 4000) (by decide) (Nat.le_of_ble_eq_true rfl) (Nat.le_of_ble_eq_true rfl) (Nat.le_of_ble_eq_true rfl) d_16_1_422 (fun q97 H97 hP97 hS97 => ?_)
  clear hP96 hS96
  refine W.widen (k := 49) (n := 166625) (Nat.le_of_ble_eq_true rfl) (Nat.le_of_ble_eq_true rfl) ?_
  refine gputFX hx hb hts inW_13 tyX13 tyX13_ok nmX13 hown hK hP97 hD96 hS97 0 rfl rfl hF96 61 (by decide) k_9_234 rfl hnm rfl rfl rfl d_16_1_424 (L' := []) rfl (fun f98 H98 locs98 hF98 hm98 hP98 hD98 hS98 => ?_)
  have hM98 := gM.tr hM96 hm98
  have hP98 : va_P D cls [(a0, .inr (13, rg 81 f98))] H98 := hP98
  have hD98 : va_D A [(a0, .inr (13, rg 81 f98))] := hD98
  clear hP97 hD96 hS97 hF96 hM96 hm98
  refine lv_aload_n hx hb d_16_1_427 rfl (lv_at hl 0 rfl) ?_
  refine lv_sipush (v := 4000) hx hb d_16_1_428 (by decide) ?_
  refine gnewaX (atype := .int) hx hb hts k_1_57 hP98 hS98 (by decide) (N' := 4000) (by decide) (Nat.le_of_ble_eq_true rfl) (Nat.le_of_ble_eq_true rfl) (Nat.le_of_ble_eq_true rfl) d_16_1_431 (fun q99 H99 hP99 hS99 => ?_)
  clear hP98 hS98
  refine W.widen (k := 50) (n := 170625) (Nat.le_of_ble_eq_true rfl) (Nat.le_of_ble_eq_true rfl) ?_
  refine gputFX hx hb hts inW_13 tyX13 tyX13_ok nmX13 hown hK hP99 hD98 hS99 0 rfl rfl hF98 62 (by decide) k_9_236 rfl hnm rfl rfl rfl d_16_1_433 (L' := []) rfl (fun f100 H100 locs100 hF100 hm100 hP100 hD100 hS100 => ?_)
  have hM100 := gM.tr hM98 hm100
  have hP100 : va_P D cls [(a0, .inr (13, rg 81 f100))] H100 := hP100
  have hD100 : va_D A [(a0, .inr (13, rg 81 f100))] := hD100
  clear hP99 hD98 hS99 hF98 hM98 hm100
  refine lv_aload_n hx hb d_16_1_436 rfl (lv_at hl 0 rfl) ?_
  refine lv_sipush (v := 4000) hx hb d_16_1_437 (by decide) ?_
  refine gnewaX (atype := .int) hx hb hts k_1_57 hP100 hS100 (by decide) (N' := 4000) (by decide) (Nat.le_of_ble_eq_true rfl) (Nat.le_of_ble_eq_true rfl) (Nat.le_of_ble_eq_true rfl) d_16_1_440 (fun q101 H101 hP101 hS101 => ?_)
  clear hP100 hS100
  refine W.widen (k := 51) (n := 174625) (Nat.le_of_ble_eq_true rfl) (Nat.le_of_ble_eq_true rfl) ?_
  refine gputFX hx hb hts inW_13 tyX13 tyX13_ok nmX13 hown hK hP101 hD100 hS101 0 rfl rfl hF100 63 (by decide) k_9_238 rfl hnm rfl rfl rfl d_16_1_442 (L' := []) rfl (fun f102 H102 locs102 hF102 hm102 hP102 hD102 hS102 => ?_)
  have hM102 := gM.tr hM100 hm102
  have hP102 : va_P D cls [(a0, .inr (13, rg 81 f102))] H102 := hP102
  have hD102 : va_D A [(a0, .inr (13, rg 81 f102))] := hD102
  clear hP101 hD100 hS101 hF100 hM100 hm102
  refine lv_aload_n hx hb d_16_1_445 rfl (lv_at hl 0 rfl) ?_
  refine lv_sipush (v := 4000) hx hb d_16_1_446 (by decide) ?_
  refine gnewaX (atype := .int) hx hb hts k_1_57 hP102 hS102 (by decide) (N' := 4000) (by decide) (Nat.le_of_ble_eq_true rfl) (Nat.le_of_ble_eq_true rfl) (Nat.le_of_ble_eq_true rfl) d_16_1_449 (fun q103 H103 hP103 hS103 => ?_)
  clear hP102 hS102
  refine W.widen (k := 52) (n := 178625) (Nat.le_of_ble_eq_true rfl) (Nat.le_of_ble_eq_true rfl) ?_
  refine gputFX hx hb hts inW_13 tyX13 tyX13_ok nmX13 hown hK hP103 hD102 hS103 0 rfl rfl hF102 64 (by decide) k_10_0 rfl hnm rfl rfl rfl d_16_1_451 (L' := []) rfl (fun f104 H104 locs104 hF104 hm104 hP104 hD104 hS104 => ?_)
  have hM104 := gM.tr hM102 hm104
  have hP104 : va_P D cls [(a0, .inr (13, rg 81 f104))] H104 := hP104
  have hD104 : va_D A [(a0, .inr (13, rg 81 f104))] := hD104
  clear hP103 hD102 hS103 hF102 hM102 hm104
  refine lv_aload_n hx hb d_16_1_454 rfl (lv_at hl 0 rfl) ?_
  refine lv_sipush (v := 1000) hx hb d_16_1_455 (by decide) ?_
  refine gnewaX (atype := .int) hx hb hts k_1_57 hP104 hS104 (by decide) (N' := 1000) (by decide) (Nat.le_of_ble_eq_true rfl) (Nat.le_of_ble_eq_true rfl) (Nat.le_of_ble_eq_true rfl) d_16_1_458 (fun q105 H105 hP105 hS105 => ?_)
  clear hP104 hS104
  refine W.widen (k := 53) (n := 179625) (Nat.le_of_ble_eq_true rfl) (Nat.le_of_ble_eq_true rfl) ?_
  refine gputFX hx hb hts inW_13 tyX13 tyX13_ok nmX13 hown hK hP105 hD104 hS105 0 rfl rfl hF104 70 (by decide) k_10_7 rfl hnm rfl rfl rfl d_16_1_460 (L' := []) rfl (fun f106 H106 locs106 hF106 hm106 hP106 hD106 hS106 => ?_)
  have hM106 := gM.tr hM104 hm106
  have hP106 : va_P D cls [(a0, .inr (13, rg 81 f106))] H106 := hP106
  have hD106 : va_D A [(a0, .inr (13, rg 81 f106))] := hD106
  clear hP105 hD104 hS105 hF104 hM104 hm106
  refine lv_aload_n hx hb d_16_1_463 rfl (lv_at hl 0 rfl) ?_
  refine lv_sipush (v := 1000) hx hb d_16_1_464 (by decide) ?_
  refine gnewaX (atype := .int) hx hb hts k_1_57 hP106 hS106 (by decide) (N' := 1000) (by decide) (Nat.le_of_ble_eq_true rfl) (Nat.le_of_ble_eq_true rfl) (Nat.le_of_ble_eq_true rfl) d_16_1_467 (fun q107 H107 hP107 hS107 => ?_)
  clear hP106 hS106
  refine W.widen (k := 54) (n := 180625) (Nat.le_of_ble_eq_true rfl) (Nat.le_of_ble_eq_true rfl) ?_
  refine gputFX hx hb hts inW_13 tyX13 tyX13_ok nmX13 hown hK hP107 hD106 hS107 0 rfl rfl hF106 71 (by decide) k_10_9 rfl hnm rfl rfl rfl d_16_1_469 (L' := []) rfl (fun f108 H108 locs108 hF108 hm108 hP108 hD108 hS108 => ?_)
  have hM108 := gM.tr hM106 hm108
  have hP108 : va_P D cls [(a0, .inr (13, rg 81 f108))] H108 := hP108
  have hD108 : va_D A [(a0, .inr (13, rg 81 f108))] := hD108
  clear hP107 hD106 hS107 hF106 hM106 hm108
  refine lv_aload_n hx hb d_16_1_472 rfl (lv_at hl 0 rfl) ?_
  refine lv_sipush (v := 800) hx hb d_16_1_473 (by decide) ?_
  refine gnewaX (atype := .long) hx hb hts k_1_105 hP108 hS108 (by decide) (N' := 800) (by decide) (Nat.le_of_ble_eq_true rfl) (Nat.le_of_ble_eq_true rfl) (Nat.le_of_ble_eq_true rfl) d_16_1_476 (fun q109 H109 hP109 hS109 => ?_)
  clear hP108 hS108
  refine W.widen (k := 55) (n := 181425) (Nat.le_of_ble_eq_true rfl) (Nat.le_of_ble_eq_true rfl) ?_
  refine gputFX hx hb hts inW_13 tyX13 tyX13_ok nmX13 hown hK hP109 hD108 hS109 0 rfl rfl hF108 73 (by decide) k_10_12 rfl hnm rfl rfl rfl d_16_1_478 (L' := []) rfl (fun f110 H110 locs110 hF110 hm110 hP110 hD110 hS110 => ?_)
  have hM110 := gM.tr hM108 hm110
  have hP110 : va_P D cls [(a0, .inr (13, rg 81 f110))] H110 := hP110
  have hD110 : va_D A [(a0, .inr (13, rg 81 f110))] := hD110
  clear hP109 hD108 hS109 hF108 hM108 hm110
  refine lv_aload_n hx hb d_16_1_481 rfl (lv_at hl 0 rfl) ?_
  refine lv_sipush (v := 800) hx hb d_16_1_482 (by decide) ?_
  refine gnewaX (atype := .long) hx hb hts k_1_105 hP110 hS110 (by decide) (N' := 800) (by decide) (Nat.le_of_ble_eq_true rfl) (Nat.le_of_ble_eq_true rfl) (Nat.le_of_ble_eq_true rfl) d_16_1_485 (fun q111 H111 hP111 hS111 => ?_)
  clear hP110 hS110
  refine W.widen (k := 56) (n := 182225) (Nat.le_of_ble_eq_true rfl) (Nat.le_of_ble_eq_true rfl) ?_
  refine gputFX hx hb hts inW_13 tyX13 tyX13_ok nmX13 hown hK hP111 hD110 hS111 0 rfl rfl hF110 74 (by decide) k_10_14 rfl hnm rfl rfl rfl d_16_1_487 (L' := []) rfl (fun f112 H112 locs112 hF112 hm112 hP112 hD112 hS112 => ?_)
  have hM112 := gM.tr hM110 hm112
  have hP112 : va_P D cls [(a0, .inr (13, rg 81 f112))] H112 := hP112
  have hD112 : va_D A [(a0, .inr (13, rg 81 f112))] := hD112
  clear hP111 hD110 hS111 hF110 hM110 hm112
  refine lv_aload_n hx hb d_16_1_490 rfl (lv_at hl 0 rfl) ?_
  refine lv_sipush (v := 3200) hx hb d_16_1_491 (by decide) ?_
  refine gnewaX (atype := .int) hx hb hts k_1_57 hP112 hS112 (by decide) (N' := 3200) (by decide) (Nat.le_of_ble_eq_true rfl) (Nat.le_of_ble_eq_true rfl) (Nat.le_of_ble_eq_true rfl) d_16_1_494 (fun q113 H113 hP113 hS113 => ?_)
  clear hP112 hS112
  refine W.widen (k := 57) (n := 185425) (Nat.le_of_ble_eq_true rfl) (Nat.le_of_ble_eq_true rfl) ?_
  refine gputFX hx hb hts inW_13 tyX13 tyX13_ok nmX13 hown hK hP113 hD112 hS113 0 rfl rfl hF112 75 (by decide) k_10_16 rfl hnm rfl rfl rfl d_16_1_496 (L' := []) rfl (fun f114 H114 locs114 hF114 hm114 hP114 hD114 hS114 => ?_)
  have hM114 := gM.tr hM112 hm114
  have hP114 : va_P D cls [(a0, .inr (13, rg 81 f114))] H114 := hP114
  have hD114 : va_D A [(a0, .inr (13, rg 81 f114))] := hD114
  clear hP113 hD112 hS113 hF112 hM112 hm114
  refine lv_aload_n hx hb d_16_1_499 rfl (lv_at hl 0 rfl) ?_
  refine lv_sipush (v := 300) hx hb d_16_1_500 (by decide) ?_
  refine gnewaX (atype := .int) hx hb hts k_1_57 hP114 hS114 (by decide) (N' := 300) (by decide) (Nat.le_of_ble_eq_true rfl) (Nat.le_of_ble_eq_true rfl) (Nat.le_of_ble_eq_true rfl) d_16_1_503 (fun q115 H115 hP115 hS115 => ?_)
  clear hP114 hS114
  refine W.widen (k := 58) (n := 185725) (Nat.le_of_ble_eq_true rfl) (Nat.le_of_ble_eq_true rfl) ?_
  refine gputFX hx hb hts inW_13 tyX13 tyX13_ok nmX13 hown hK hP115 hD114 hS115 0 rfl rfl hF114 77 (by decide) k_10_19 rfl hnm rfl rfl rfl d_16_1_505 (L' := []) rfl (fun f116 H116 locs116 hF116 hm116 hP116 hD116 hS116 => ?_)
  have hM116 := gM.tr hM114 hm116
  have hP116 : va_P D cls [(a0, .inr (13, rg 81 f116))] H116 := hP116
  have hD116 : va_D A [(a0, .inr (13, rg 81 f116))] := hD116
  clear hP115 hD114 hS115 hF114 hM114 hm116
  refine lv_aload_n hx hb d_16_1_508 rfl (lv_at hl 0 rfl) ?_
  refine lv_sipush (v := 300) hx hb d_16_1_509 (by decide) ?_
  refine gnewaX (atype := .int) hx hb hts k_1_57 hP116 hS116 (by decide) (N' := 300) (by decide) (Nat.le_of_ble_eq_true rfl) (Nat.le_of_ble_eq_true rfl) (Nat.le_of_ble_eq_true rfl) d_16_1_512 (fun q117 H117 hP117 hS117 => ?_)
  clear hP116 hS116
  refine W.widen (k := 59) (n := 186025) (Nat.le_of_ble_eq_true rfl) (Nat.le_of_ble_eq_true rfl) ?_
  refine gputFX hx hb hts inW_13 tyX13 tyX13_ok nmX13 hown hK hP117 hD116 hS117 0 rfl rfl hF116 78 (by decide) k_10_21 rfl hnm rfl rfl rfl d_16_1_514 (L' := []) rfl (fun f118 H118 locs118 hF118 hm118 hP118 hD118 hS118 => ?_)
  have hM118 := gM.tr hM116 hm118
  have hP118 : va_P D cls [(a0, .inr (13, rg 81 f118))] H118 := hP118
  have hD118 : va_D A [(a0, .inr (13, rg 81 f118))] := hD118
  clear hP117 hD116 hS117 hF116 hM116 hm118
  refine lv_aload_n hx hb d_16_1_517 rfl (lv_at hl 0 rfl) ?_
  refine lv_sipush (v := 300) hx hb d_16_1_518 (by decide) ?_
  refine gnewaX (atype := .int) hx hb hts k_1_57 hP118 hS118 (by decide) (N' := 300) (by decide) (Nat.le_of_ble_eq_true rfl) (Nat.le_of_ble_eq_true rfl) (Nat.le_of_ble_eq_true rfl) d_16_1_521 (fun q119 H119 hP119 hS119 => ?_)
  clear hP118 hS118
  refine W.widen (k := 60) (n := 186325) (Nat.le_of_ble_eq_true rfl) (Nat.le_of_ble_eq_true rfl) ?_
  refine gputFX hx hb hts inW_13 tyX13 tyX13_ok nmX13 hown hK hP119 hD118 hS119 0 rfl rfl hF118 79 (by decide) k_10_23 rfl hnm rfl rfl rfl d_16_1_523 (L' := []) rfl (fun f120 H120 locs120 hF120 hm120 hP120 hD120 hS120 => ?_)
  have hM120 := gM.tr hM118 hm120
  have hP120 : va_P D cls [(a0, .inr (13, rg 81 f120))] H120 := hP120
  have hD120 : va_D A [(a0, .inr (13, rg 81 f120))] := hD120
  clear hP119 hD118 hS119 hF118 hM118 hm120
  refine lv_aload_n hx hb d_16_1_526 rfl (lv_at hl 0 rfl) ?_
  refine lv_sipush (v := 300) hx hb d_16_1_527 (by decide) ?_
  refine gnewaX (atype := .int) hx hb hts k_1_57 hP120 hS120 (by decide) (N' := 300) (by decide) (Nat.le_of_ble_eq_true rfl) (Nat.le_of_ble_eq_true rfl) (Nat.le_of_ble_eq_true rfl) d_16_1_530 (fun q121 H121 hP121 hS121 => ?_)
  clear hP120 hS120
  refine W.widen (k := 61) (n := 186625) (Nat.le_of_ble_eq_true rfl) (Nat.le_of_ble_eq_true rfl) ?_
  refine gputFX hx hb hts inW_13 tyX13 tyX13_ok nmX13 hown hK hP121 hD120 hS121 0 rfl rfl hF120 80 (by decide) k_10_25 rfl hnm rfl rfl rfl d_16_1_532 (L' := []) rfl (fun f122 H122 locs122 hF122 hm122 hP122 hD122 hS122 => ?_)
  have hM122 := gM.tr hM120 hm122
  have hP122 : va_P D cls [(a0, .inr (13, rg 81 f122))] H122 := hP122
  have hD122 : va_D A [(a0, .inr (13, rg 81 f122))] := hD122
  clear hP121 hD120 hS121 hF120 hM120 hm122
  have hP9 := hP122.sub (ws' := [(a0, .inr (13, rg 81 f122))]) [0] rfl
  have hD9 := hD122.sub (ws' := [(a0, .inr (13, rg 81 f122))]) [0] (by decide) rfl
  refine W.widen (k := 61) (n := 186625) (Nat.le_of_ble_eq_true rfl) (Nat.le_of_ble_eq_true rfl) ?_
  exact W.vret hx hb hr (fun t ht hW => ⟨⟨(f122), rfl, ⟨hM122.mono (by decide), hF122.sub [] rfl⟩, by rw [ht]; exact hP9, va_K.moved hW.alike hK, hD9⟩, hS122.F ht⟩) hS122.2.2 d_16_1_535
