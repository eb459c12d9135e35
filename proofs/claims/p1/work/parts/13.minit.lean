theorem k_9_117 : (Jvm.Cond.methodLink "StaveHouseModel" (24 : Nat) ({ cls := "java/lang/Object", name := "<init>", desc := "()V" } : Jvm.MethodName)) ∈ wAll := wA_9 (j := 117) rfl rfl
theorem k_10_239 : (Jvm.Cond.fieldLink "StaveHouseModel" (13 : Nat) "StaveHouseModel" "rd" "J") ∈ wAll := wA_10 (j := 239) rfl rfl
theorem k_4_180 : (Jvm.Cond.arrayClass Jvm.ClassFile.FieldType.byte) ∈ wAll := wA_4 (j := 180) rfl rfl
theorem k_11_0 : (Jvm.Cond.fieldLink "StaveHouseModel" (30 : Nat) "StaveHouseModel" "tape" "[B") ∈ wAll := wA_11 (j := 0) rfl rfl
theorem k_11_2 : (Jvm.Cond.fieldLink "StaveHouseModel" (34 : Nat) "StaveHouseModel" "waits" "[B") ∈ wAll := wA_11 (j := 2) rfl rfl
theorem k_9_118 : (Jvm.Cond.classLink "StaveHouseModel" (37 : Nat) "StaveHouseModel$Piece") ∈ wAll := wA_9 (j := 118) rfl rfl
theorem k_9_120 : (Jvm.Cond.instantiable "StaveHouseModel$Piece" (81 : Nat)) ∈ wAll := wA_9 (j := 120) rfl rfl
theorem k_1_10 : (Jvm.Cond.initialized "StaveHouseModel$Piece") ∈ wAll := wA_1 (j := 10) rfl rfl
theorem k_9_123 : (Jvm.Cond.code ({ cls := "StaveHouseModel$Piece", name := "<init>", desc := "()V" } : Jvm.MethodName) prog_16_method_1_code (1 : Nat) (Option.none : Option Jvm.ClassFile.FieldType)) ∈ wAll := wA_9 (j := 123) rfl rfl
theorem k_9_122 : (Jvm.Cond.instanceMethod ({ cls := "StaveHouseModel$Piece", name := "<init>", desc := "()V" } : Jvm.MethodName)) ∈ wAll := wA_9 (j := 122) rfl rfl
theorem k_11_3 : (Jvm.Cond.fieldLink "StaveHouseModel" (40 : Nat) "StaveHouseModel" "pieces" "[LStaveHouseModel$Piece;") ∈ wAll := wA_11 (j := 3) rfl rfl
theorem k_11_4 : (Jvm.Cond.fieldLink "StaveHouseModel" (44 : Nat) "StaveHouseModel" "work" "LStaveHouseModel$Piece;") ∈ wAll := wA_11 (j := 4) rfl rfl
theorem k_11_5 : (Jvm.Cond.fieldLink "StaveHouseModel" (48 : Nat) "StaveHouseModel" "kind" "[I") ∈ wAll := wA_11 (j := 5) rfl rfl
theorem k_11_6 : (Jvm.Cond.fieldLink "StaveHouseModel" (52 : Nat) "StaveHouseModel" "at" "[I") ∈ wAll := wA_11 (j := 6) rfl rfl
theorem k_11_7 : (Jvm.Cond.fieldLink "StaveHouseModel" (55 : Nat) "StaveHouseModel" "value" "[I") ∈ wAll := wA_11 (j := 7) rfl rfl
theorem k_11_8 : (Jvm.Cond.fieldLink "StaveHouseModel" (58 : Nat) "StaveHouseModel" "altered" "[I") ∈ wAll := wA_11 (j := 8) rfl rfl
theorem k_11_9 : (Jvm.Cond.fieldLink "StaveHouseModel" (61 : Nat) "StaveHouseModel" "word" "[J") ∈ wAll := wA_11 (j := 9) rfl rfl
theorem k_10_193 : (Jvm.Cond.code ({ cls := "StaveHouseModel", name := "code", desc := "(Ljava/lang/String;)J" } : Jvm.MethodName) prog_15_method_24_code (4 : Nat) (Option.some Jvm.ClassFile.FieldType.long)) ∈ wAll := wA_10 (j := 193) rfl rfl
theorem k_10_191 : (Jvm.Cond.methodLink "StaveHouseModel" (67 : Nat) ({ cls := "StaveHouseModel", name := "code", desc := "(Ljava/lang/String;)J" } : Jvm.MethodName)) ∈ wAll := wA_10 (j := 191) rfl rfl
theorem k_10_192 : (Jvm.Cond.static ({ cls := "StaveHouseModel", name := "code", desc := "(Ljava/lang/String;)J" } : Jvm.MethodName)) ∈ wAll := wA_10 (j := 192) rfl rfl
theorem k_1_9 : (Jvm.Cond.initialized "StaveHouseModel") ∈ wAll := wA_1 (j := 9) rfl rfl
theorem k_11_11 : (Jvm.Cond.fieldLink "StaveHouseModel" (77 : Nat) "StaveHouseModel" "clefs" "[J") ∈ wAll := wA_11 (j := 11) rfl rfl
theorem k_11_12 : (Jvm.Cond.fieldLink "StaveHouseModel" (96 : Nat) "StaveHouseModel" "louds" "[J") ∈ wAll := wA_11 (j := 12) rfl rfl
theorem k_10_207 : (Jvm.Cond.fieldLink "StaveHouseModel" (99 : Nat) "StaveHouseModel" "KEY" "J") ∈ wAll := wA_10 (j := 207) rfl rfl
theorem k_10_209 : (Jvm.Cond.fieldLink "StaveHouseModel" (102 : Nat) "StaveHouseModel" "MAJOR" "J") ∈ wAll := wA_10 (j := 209) rfl rfl
theorem k_10_211 : (Jvm.Cond.fieldLink "StaveHouseModel" (105 : Nat) "StaveHouseModel" "MINOR" "J") ∈ wAll := wA_10 (j := 211) rfl rfl
theorem k_10_213 : (Jvm.Cond.fieldLink "StaveHouseModel" (108 : Nat) "StaveHouseModel" "TIME" "J") ∈ wAll := wA_10 (j := 213) rfl rfl
theorem k_10_215 : (Jvm.Cond.fieldLink "StaveHouseModel" (111 : Nat) "StaveHouseModel" "TEMPO" "J") ∈ wAll := wA_10 (j := 215) rfl rfl
theorem k_10_217 : (Jvm.Cond.fieldLink "StaveHouseModel" (114 : Nat) "StaveHouseModel" "LET" "J") ∈ wAll := wA_10 (j := 217) rfl rfl
theorem k_10_219 : (Jvm.Cond.fieldLink "StaveHouseModel" (117 : Nat) "StaveHouseModel" "VOICE" "J") ∈ wAll := wA_10 (j := 219) rfl rfl
theorem k_10_221 : (Jvm.Cond.fieldLink "StaveHouseModel" (120 : Nat) "StaveHouseModel" "REPEAT" "J") ∈ wAll := wA_10 (j := 221) rfl rfl
theorem k_10_223 : (Jvm.Cond.fieldLink "StaveHouseModel" (123 : Nat) "StaveHouseModel" "ALT" "J") ∈ wAll := wA_10 (j := 223) rfl rfl
theorem k_10_225 : (Jvm.Cond.fieldLink "StaveHouseModel" (126 : Nat) "StaveHouseModel" "USE" "J") ∈ wAll := wA_10 (j := 225) rfl rfl
theorem k_10_227 : (Jvm.Cond.fieldLink "StaveHouseModel" (129 : Nat) "StaveHouseModel" "MOVE" "J") ∈ wAll := wA_10 (j := 227) rfl rfl
theorem k_10_229 : (Jvm.Cond.fieldLink "StaveHouseModel" (132 : Nat) "StaveHouseModel" "MIRROR" "J") ∈ wAll := wA_10 (j := 229) rfl rfl
theorem k_10_231 : (Jvm.Cond.fieldLink "StaveHouseModel" (135 : Nat) "StaveHouseModel" "BACK" "J") ∈ wAll := wA_10 (j := 231) rfl rfl
theorem k_10_233 : (Jvm.Cond.fieldLink "StaveHouseModel" (138 : Nat) "StaveHouseModel" "SLOW" "J") ∈ wAll := wA_10 (j := 233) rfl rfl
theorem k_10_235 : (Jvm.Cond.fieldLink "StaveHouseModel" (141 : Nat) "StaveHouseModel" "REST" "J") ∈ wAll := wA_10 (j := 235) rfl rfl
theorem k_11_13 : (Jvm.Cond.fieldLink "StaveHouseModel" (144 : Nat) "StaveHouseModel" "others" "[J") ∈ wAll := wA_11 (j := 13) rfl rfl
theorem k_11_23 : (Jvm.Cond.fieldLink "StaveHouseModel" (147 : Nat) "StaveHouseModel" "letName" "[J") ∈ wAll := wA_11 (j := 23) rfl rfl
theorem k_11_24 : (Jvm.Cond.fieldLink "StaveHouseModel" (150 : Nat) "StaveHouseModel" "letOpen" "[I") ∈ wAll := wA_11 (j := 24) rfl rfl
theorem k_11_26 : (Jvm.Cond.fieldLink "StaveHouseModel" (153 : Nat) "StaveHouseModel" "voiceToken" "[I") ∈ wAll := wA_11 (j := 26) rfl rfl
theorem k_11_27 : (Jvm.Cond.fieldLink "StaveHouseModel" (156 : Nat) "StaveHouseModel" "voiceOpen" "[I") ∈ wAll := wA_11 (j := 27) rfl rfl
theorem k_11_28 : (Jvm.Cond.fieldLink "StaveHouseModel" (159 : Nat) "StaveHouseModel" "closeOf" "[I") ∈ wAll := wA_11 (j := 28) rfl rfl
theorem k_11_29 : (Jvm.Cond.fieldLink "StaveHouseModel" (162 : Nat) "StaveHouseModel" "behind" "[I") ∈ wAll := wA_11 (j := 29) rfl rfl
theorem k_11_30 : (Jvm.Cond.fieldLink "StaveHouseModel" (165 : Nat) "StaveHouseModel" "lengthNumber" "[I") ∈ wAll := wA_11 (j := 30) rfl rfl
theorem k_11_31 : (Jvm.Cond.fieldLink "StaveHouseModel" (168 : Nat) "StaveHouseModel" "lengthPoints" "[I") ∈ wAll := wA_11 (j := 31) rfl rfl
theorem k_11_32 : (Jvm.Cond.fieldLink "StaveHouseModel" (171 : Nat) "StaveHouseModel" "marksOf" "[I") ∈ wAll := wA_11 (j := 32) rfl rfl
theorem k_11_40 : (Jvm.Cond.fieldLink "StaveHouseModel" (174 : Nat) "StaveHouseModel" "mirrors" "[Z") ∈ wAll := wA_11 (j := 40) rfl rfl
theorem k_11_41 : (Jvm.Cond.fieldLink "StaveHouseModel" (178 : Nat) "StaveHouseModel" "steps" "[I") ∈ wAll := wA_11 (j := 41) rfl rfl
theorem k_11_42 : (Jvm.Cond.fieldLink "StaveHouseModel" (181 : Nat) "StaveHouseModel" "tones" "[I") ∈ wAll := wA_11 (j := 42) rfl rfl
theorem k_11_44 : (Jvm.Cond.fieldLink "StaveHouseModel" (184 : Nat) "StaveHouseModel" "firsts" "[I") ∈ wAll := wA_11 (j := 44) rfl rfl
theorem k_11_45 : (Jvm.Cond.fieldLink "StaveHouseModel" (187 : Nat) "StaveHouseModel" "seconds" "[I") ∈ wAll := wA_11 (j := 45) rfl rfl
theorem k_11_49 : (Jvm.Cond.fieldLink "StaveHouseModel" (190 : Nat) "StaveHouseModel" "powers" "[I") ∈ wAll := wA_11 (j := 49) rfl rfl
theorem k_11_56 : (Jvm.Cond.fieldLink "StaveHouseModel" (193 : Nat) "StaveHouseModel" "knows" "[I") ∈ wAll := wA_11 (j := 56) rfl rfl
theorem k_11_57 : (Jvm.Cond.fieldLink "StaveHouseModel" (196 : Nat) "StaveHouseModel" "least" "[J") ∈ wAll := wA_11 (j := 57) rfl rfl
theorem k_11_58 : (Jvm.Cond.fieldLink "StaveHouseModel" (199 : Nat) "StaveHouseModel" "most" "[I") ∈ wAll := wA_11 (j := 58) rfl rfl
theorem k_11_59 : (Jvm.Cond.fieldLink "StaveHouseModel" (202 : Nat) "StaveHouseModel" "forces" "[I") ∈ wAll := wA_11 (j := 59) rfl rfl
theorem k_11_61 : (Jvm.Cond.fieldLink "StaveHouseModel" (205 : Nat) "StaveHouseModel" "begins" "[I") ∈ wAll := wA_11 (j := 61) rfl rfl
theorem k_11_62 : (Jvm.Cond.fieldLink "StaveHouseModel" (208 : Nat) "StaveHouseModel" "ends" "[I") ∈ wAll := wA_11 (j := 62) rfl rfl
theorem k_11_63 : (Jvm.Cond.fieldLink "StaveHouseModel" (211 : Nat) "StaveHouseModel" "tonesOf" "[I") ∈ wAll := wA_11 (j := 63) rfl rfl
theorem k_11_64 : (Jvm.Cond.fieldLink "StaveHouseModel" (214 : Nat) "StaveHouseModel" "forcesOf" "[I") ∈ wAll := wA_11 (j := 64) rfl rfl
theorem k_11_65 : (Jvm.Cond.fieldLink "StaveHouseModel" (217 : Nat) "StaveHouseModel" "voicesOf" "[I") ∈ wAll := wA_11 (j := 65) rfl rfl
theorem k_11_66 : (Jvm.Cond.fieldLink "StaveHouseModel" (220 : Nat) "StaveHouseModel" "eventsOf" "[I") ∈ wAll := wA_11 (j := 66) rfl rfl
theorem k_11_67 : (Jvm.Cond.fieldLink "StaveHouseModel" (223 : Nat) "StaveHouseModel" "order" "[I") ∈ wAll := wA_11 (j := 67) rfl rfl
theorem k_10_237 : (Jvm.Cond.constant "StaveHouseModel" (226 : Nat) (40000 : Int32)) ∈ wAll := wA_10 (j := 237) rfl rfl
theorem k_11_68 : (Jvm.Cond.fieldLink "StaveHouseModel" (227 : Nat) "StaveHouseModel" "out" "[B") ∈ wAll := wA_11 (j := 68) rfl rfl
theorem k_11_71 : (Jvm.Cond.fieldLink "StaveHouseModel" (230 : Nat) "StaveHouseModel" "told" "[I") ∈ wAll := wA_11 (j := 71) rfl rfl
theorem k_11_72 : (Jvm.Cond.fieldLink "StaveHouseModel" (233 : Nat) "StaveHouseModel" "toldNow" "[I") ∈ wAll := wA_11 (j := 72) rfl rfl
theorem k_11_73 : (Jvm.Cond.fieldLink "StaveHouseModel" (236 : Nat) "StaveHouseModel" "soundTrack" "[I") ∈ wAll := wA_11 (j := 73) rfl rfl
theorem k_11_74 : (Jvm.Cond.fieldLink "StaveHouseModel" (239 : Nat) "StaveHouseModel" "soundChannel" "[I") ∈ wAll := wA_11 (j := 74) rfl rfl
theorem k_11_75 : (Jvm.Cond.fieldLink "StaveHouseModel" (242 : Nat) "StaveHouseModel" "soundTone" "[I") ∈ wAll := wA_11 (j := 75) rfl rfl
theorem k_11_76 : (Jvm.Cond.fieldLink "StaveHouseModel" (245 : Nat) "StaveHouseModel" "soundForce" "[I") ∈ wAll := wA_11 (j := 76) rfl rfl
theorem k_11_77 : (Jvm.Cond.fieldLink "StaveHouseModel" (248 : Nat) "StaveHouseModel" "soundBegin" "[J") ∈ wAll := wA_11 (j := 77) rfl rfl
theorem k_11_78 : (Jvm.Cond.fieldLink "StaveHouseModel" (251 : Nat) "StaveHouseModel" "soundEnd" "[J") ∈ wAll := wA_11 (j := 78) rfl rfl
theorem k_11_79 : (Jvm.Cond.fieldLink "StaveHouseModel" (254 : Nat) "StaveHouseModel" "trackNumber" "[I") ∈ wAll := wA_11 (j := 79) rfl rfl
theorem k_11_80 : (Jvm.Cond.fieldLink "StaveHouseModel" (257 : Nat) "StaveHouseModel" "nowTrack" "[I") ∈ wAll := wA_11 (j := 80) rfl rfl
theorem k_11_81 : (Jvm.Cond.fieldLink "StaveHouseModel" (260 : Nat) "StaveHouseModel" "nowChannel" "[I") ∈ wAll := wA_11 (j := 81) rfl rfl
theorem k_11_82 : (Jvm.Cond.fieldLink "StaveHouseModel" (263 : Nat) "StaveHouseModel" "nowTone" "[I") ∈ wAll := wA_11 (j := 82) rfl rfl
theorem k_11_83 : (Jvm.Cond.fieldLink "StaveHouseModel" (266 : Nat) "StaveHouseModel" "nowForce" "[I") ∈ wAll := wA_11 (j := 83) rfl rfl
theorem k_11_84 : (Jvm.Cond.fieldLink "StaveHouseModel" (269 : Nat) "StaveHouseModel" "nowBegin" "[J") ∈ wAll := wA_11 (j := 84) rfl rfl
theorem k_11_85 : (Jvm.Cond.fieldLink "StaveHouseModel" (272 : Nat) "StaveHouseModel" "nowEnd" "[J") ∈ wAll := wA_11 (j := 85) rfl rfl
theorem k_11_86 : (Jvm.Cond.fieldLink "StaveHouseModel" (275 : Nat) "StaveHouseModel" "nowNumber" "[I") ∈ wAll := wA_11 (j := 86) rfl rfl
theorem k_11_93 : (Jvm.Cond.fieldLink "StaveHouseModel" (278 : Nat) "StaveHouseModel" "sixTones" "[I") ∈ wAll := wA_11 (j := 93) rfl rfl
theorem k_11_94 : (Jvm.Cond.fieldLink "StaveHouseModel" (281 : Nat) "StaveHouseModel" "table" "[I") ∈ wAll := wA_11 (j := 94) rfl rfl
theorem k_11_95 : (Jvm.Cond.fieldLink "StaveHouseModel" (284 : Nat) "StaveHouseModel" "moves" "[I") ∈ wAll := wA_11 (j := 95) rfl rfl
theorem k_11_96 : (Jvm.Cond.fieldLink "StaveHouseModel" (287 : Nat) "StaveHouseModel" "classLetter" "[I") ∈ wAll := wA_11 (j := 96) rfl rfl
theorem k_11_97 : (Jvm.Cond.fieldLink "StaveHouseModel" (290 : Nat) "StaveHouseModel" "classAlt" "[I") ∈ wAll := wA_11 (j := 97) rfl rfl
theorem k_11_104 : (Jvm.Cond.fieldLink "StaveHouseModel" (293 : Nat) "StaveHouseModel" "weights" "[I") ∈ wAll := wA_11 (j := 104) rfl rfl
theorem k_11_105 : (Jvm.Cond.lays "StaveHouseModel" "StaveHouseModel" "ru" "J") ∈ wAll := wA_11 (j := 105) rfl rfl
theorem k_11_107 : (Jvm.Cond.lays "StaveHouseModel" "StaveHouseModel" "rd" "J") ∈ wAll := wA_11 (j := 107) rfl rfl
theorem k_11_109 : (Jvm.Cond.laysFinal "StaveHouseModel" "StaveHouseModel" "tape" "[B") ∈ wAll := wA_11 (j := 109) rfl rfl
theorem k_11_111 : (Jvm.Cond.lays "StaveHouseModel" "StaveHouseModel" "size" "I") ∈ wAll := wA_11 (j := 111) rfl rfl
theorem k_11_113 : (Jvm.Cond.laysFinal "StaveHouseModel" "StaveHouseModel" "waits" "[B") ∈ wAll := wA_11 (j := 113) rfl rfl
theorem k_11_115 : (Jvm.Cond.laysFinal "StaveHouseModel" "StaveHouseModel" "pieces" "[LStaveHouseModel$Piece;") ∈ wAll := wA_11 (j := 115) rfl rfl
theorem k_11_117 : (Jvm.Cond.lays "StaveHouseModel" "StaveHouseModel" "work" "LStaveHouseModel$Piece;") ∈ wAll := wA_11 (j := 117) rfl rfl
theorem k_11_119 : (Jvm.Cond.laysFinal "StaveHouseModel" "StaveHouseModel" "kind" "[I") ∈ wAll := wA_11 (j := 119) rfl rfl
theorem k_11_121 : (Jvm.Cond.laysFinal "StaveHouseModel" "StaveHouseModel" "at" "[I") ∈ wAll := wA_11 (j := 121) rfl rfl
theorem k_11_123 : (Jvm.Cond.laysFinal "StaveHouseModel" "StaveHouseModel" "value" "[I") ∈ wAll := wA_11 (j := 123) rfl rfl
theorem k_11_125 : (Jvm.Cond.laysFinal "StaveHouseModel" "StaveHouseModel" "altered" "[I") ∈ wAll := wA_11 (j := 125) rfl rfl
theorem k_11_127 : (Jvm.Cond.laysFinal "StaveHouseModel" "StaveHouseModel" "word" "[J") ∈ wAll := wA_11 (j := 127) rfl rfl
theorem k_11_129 : (Jvm.Cond.lays "StaveHouseModel" "StaveHouseModel" "tokens" "I") ∈ wAll := wA_11 (j := 129) rfl rfl
theorem k_11_131 : (Jvm.Cond.laysFinal "StaveHouseModel" "StaveHouseModel" "clefs" "[J") ∈ wAll := wA_11 (j := 131) rfl rfl
theorem k_11_133 : (Jvm.Cond.laysFinal "StaveHouseModel" "StaveHouseModel" "louds" "[J") ∈ wAll := wA_11 (j := 133) rfl rfl
theorem k_11_135 : (Jvm.Cond.laysFinal "StaveHouseModel" "StaveHouseModel" "others" "[J") ∈ wAll := wA_11 (j := 135) rfl rfl
theorem k_11_137 : (Jvm.Cond.lays "StaveHouseModel" "StaveHouseModel" "t" "I") ∈ wAll := wA_11 (j := 137) rfl rfl
theorem k_11_139 : (Jvm.Cond.lays "StaveHouseModel" "StaveHouseModel" "fault" "I") ∈ wAll := wA_11 (j := 139) rfl rfl
theorem k_11_141 : (Jvm.Cond.lays "StaveHouseModel" "StaveHouseModel" "place" "I") ∈ wAll := wA_11 (j := 141) rfl rfl
theorem k_11_143 : (Jvm.Cond.lays "StaveHouseModel" "StaveHouseModel" "openMany" "I") ∈ wAll := wA_11 (j := 143) rfl rfl
theorem k_11_145 : (Jvm.Cond.lays "StaveHouseModel" "StaveHouseModel" "nearNumber" "I") ∈ wAll := wA_11 (j := 145) rfl rfl
theorem k_11_147 : (Jvm.Cond.lays "StaveHouseModel" "StaveHouseModel" "nearPoints" "I") ∈ wAll := wA_11 (j := 147) rfl rfl
theorem k_11_149 : (Jvm.Cond.lays "StaveHouseModel" "StaveHouseModel" "hadKey" "Z") ∈ wAll := wA_11 (j := 149) rfl rfl
theorem k_11_151 : (Jvm.Cond.lays "StaveHouseModel" "StaveHouseModel" "hadTime" "Z") ∈ wAll := wA_11 (j := 151) rfl rfl
theorem k_11_153 : (Jvm.Cond.lays "StaveHouseModel" "StaveHouseModel" "hadTempo" "Z") ∈ wAll := wA_11 (j := 153) rfl rfl
theorem k_11_155 : (Jvm.Cond.laysFinal "StaveHouseModel" "StaveHouseModel" "letName" "[J") ∈ wAll := wA_11 (j := 155) rfl rfl
theorem k_11_157 : (Jvm.Cond.laysFinal "StaveHouseModel" "StaveHouseModel" "letOpen" "[I") ∈ wAll := wA_11 (j := 157) rfl rfl
theorem k_11_159 : (Jvm.Cond.lays "StaveHouseModel" "StaveHouseModel" "lets" "I") ∈ wAll := wA_11 (j := 159) rfl rfl
theorem k_11_161 : (Jvm.Cond.laysFinal "StaveHouseModel" "StaveHouseModel" "voiceToken" "[I") ∈ wAll := wA_11 (j := 161) rfl rfl
theorem k_11_163 : (Jvm.Cond.laysFinal "StaveHouseModel" "StaveHouseModel" "voiceOpen" "[I") ∈ wAll := wA_11 (j := 163) rfl rfl
theorem k_11_165 : (Jvm.Cond.laysFinal "StaveHouseModel" "StaveHouseModel" "closeOf" "[I") ∈ wAll := wA_11 (j := 165) rfl rfl
theorem k_11_167 : (Jvm.Cond.laysFinal "StaveHouseModel" "StaveHouseModel" "behind" "[I") ∈ wAll := wA_11 (j := 167) rfl rfl
theorem k_11_169 : (Jvm.Cond.laysFinal "StaveHouseModel" "StaveHouseModel" "lengthNumber" "[I") ∈ wAll := wA_11 (j := 169) rfl rfl
theorem k_11_171 : (Jvm.Cond.laysFinal "StaveHouseModel" "StaveHouseModel" "lengthPoints" "[I") ∈ wAll := wA_11 (j := 171) rfl rfl
theorem k_11_173 : (Jvm.Cond.laysFinal "StaveHouseModel" "StaveHouseModel" "marksOf" "[I") ∈ wAll := wA_11 (j := 173) rfl rfl
theorem k_11_175 : (Jvm.Cond.lays "StaveHouseModel" "StaveHouseModel" "v" "I") ∈ wAll := wA_11 (j := 175) rfl rfl
theorem k_11_177 : (Jvm.Cond.lays "StaveHouseModel" "StaveHouseModel" "made" "I") ∈ wAll := wA_11 (j := 177) rfl rfl
theorem k_11_179 : (Jvm.Cond.lays "StaveHouseModel" "StaveHouseModel" "items" "I") ∈ wAll := wA_11 (j := 179) rfl rfl
theorem k_11_181 : (Jvm.Cond.lays "StaveHouseModel" "StaveHouseModel" "comeUp" "J") ∈ wAll := wA_11 (j := 181) rfl rfl
theorem k_11_183 : (Jvm.Cond.lays "StaveHouseModel" "StaveHouseModel" "comeDown" "J") ∈ wAll := wA_11 (j := 183) rfl rfl
theorem k_11_185 : (Jvm.Cond.lays "StaveHouseModel" "StaveHouseModel" "loud" "I") ∈ wAll := wA_11 (j := 185) rfl rfl
theorem k_11_187 : (Jvm.Cond.lays "StaveHouseModel" "StaveHouseModel" "backs" "I") ∈ wAll := wA_11 (j := 187) rfl rfl
theorem k_11_189 : (Jvm.Cond.laysFinal "StaveHouseModel" "StaveHouseModel" "mirrors" "[Z") ∈ wAll := wA_11 (j := 189) rfl rfl
theorem k_11_191 : (Jvm.Cond.laysFinal "StaveHouseModel" "StaveHouseModel" "steps" "[I") ∈ wAll := wA_11 (j := 191) rfl rfl
theorem k_11_193 : (Jvm.Cond.laysFinal "StaveHouseModel" "StaveHouseModel" "tones" "[I") ∈ wAll := wA_11 (j := 193) rfl rfl
theorem k_11_195 : (Jvm.Cond.lays "StaveHouseModel" "StaveHouseModel" "changes" "I") ∈ wAll := wA_11 (j := 195) rfl rfl
theorem k_11_197 : (Jvm.Cond.laysFinal "StaveHouseModel" "StaveHouseModel" "firsts" "[I") ∈ wAll := wA_11 (j := 197) rfl rfl
theorem k_11_199 : (Jvm.Cond.laysFinal "StaveHouseModel" "StaveHouseModel" "seconds" "[I") ∈ wAll := wA_11 (j := 199) rfl rfl
theorem k_11_201 : (Jvm.Cond.lays "StaveHouseModel" "StaveHouseModel" "brackets" "I") ∈ wAll := wA_11 (j := 201) rfl rfl
theorem k_11_203 : (Jvm.Cond.lays "StaveHouseModel" "StaveHouseModel" "outerToken" "I") ∈ wAll := wA_11 (j := 203) rfl rfl
theorem k_11_205 : (Jvm.Cond.lays "StaveHouseModel" "StaveHouseModel" "outerTimes" "I") ∈ wAll := wA_11 (j := 205) rfl rfl
theorem k_11_207 : (Jvm.Cond.laysFinal "StaveHouseModel" "StaveHouseModel" "powers" "[I") ∈ wAll := wA_11 (j := 207) rfl rfl
theorem k_11_209 : (Jvm.Cond.lays "StaveHouseModel" "StaveHouseModel" "leftUp" "J") ∈ wAll := wA_11 (j := 209) rfl rfl
theorem k_11_211 : (Jvm.Cond.lays "StaveHouseModel" "StaveHouseModel" "leftDown" "J") ∈ wAll := wA_11 (j := 211) rfl rfl
theorem k_11_213 : (Jvm.Cond.lays "StaveHouseModel" "StaveHouseModel" "hereUp" "J") ∈ wAll := wA_11 (j := 213) rfl rfl
theorem k_11_215 : (Jvm.Cond.lays "StaveHouseModel" "StaveHouseModel" "hereDown" "J") ∈ wAll := wA_11 (j := 215) rfl rfl
theorem k_11_217 : (Jvm.Cond.lays "StaveHouseModel" "StaveHouseModel" "bestForm" "I") ∈ wAll := wA_11 (j := 217) rfl rfl
theorem k_11_219 : (Jvm.Cond.lays "StaveHouseModel" "StaveHouseModel" "bestPoints" "I") ∈ wAll := wA_11 (j := 219) rfl rfl
theorem k_11_221 : (Jvm.Cond.laysFinal "StaveHouseModel" "StaveHouseModel" "knows" "[I") ∈ wAll := wA_11 (j := 221) rfl rfl
theorem k_11_223 : (Jvm.Cond.laysFinal "StaveHouseModel" "StaveHouseModel" "least" "[J") ∈ wAll := wA_11 (j := 223) rfl rfl
theorem k_11_225 : (Jvm.Cond.laysFinal "StaveHouseModel" "StaveHouseModel" "most" "[I") ∈ wAll := wA_11 (j := 225) rfl rfl
theorem k_11_227 : (Jvm.Cond.laysFinal "StaveHouseModel" "StaveHouseModel" "forces" "[I") ∈ wAll := wA_11 (j := 227) rfl rfl
theorem k_11_229 : (Jvm.Cond.lays "StaveHouseModel" "StaveHouseModel" "sounds" "I") ∈ wAll := wA_11 (j := 229) rfl rfl
theorem k_11_231 : (Jvm.Cond.laysFinal "StaveHouseModel" "StaveHouseModel" "begins" "[I") ∈ wAll := wA_11 (j := 231) rfl rfl
theorem k_11_233 : (Jvm.Cond.laysFinal "StaveHouseModel" "StaveHouseModel" "ends" "[I") ∈ wAll := wA_11 (j := 233) rfl rfl
theorem k_11_235 : (Jvm.Cond.laysFinal "StaveHouseModel" "StaveHouseModel" "tonesOf" "[I") ∈ wAll := wA_11 (j := 235) rfl rfl
theorem k_11_237 : (Jvm.Cond.laysFinal "StaveHouseModel" "StaveHouseModel" "forcesOf" "[I") ∈ wAll := wA_11 (j := 237) rfl rfl
theorem k_11_239 : (Jvm.Cond.laysFinal "StaveHouseModel" "StaveHouseModel" "voicesOf" "[I") ∈ wAll := wA_11 (j := 239) rfl rfl
theorem k_12_1 : (Jvm.Cond.laysFinal "StaveHouseModel" "StaveHouseModel" "eventsOf" "[I") ∈ wAll := wA_12 (j := 1) rfl rfl
theorem k_12_3 : (Jvm.Cond.laysFinal "StaveHouseModel" "StaveHouseModel" "order" "[I") ∈ wAll := wA_12 (j := 3) rfl rfl
theorem k_12_5 : (Jvm.Cond.laysFinal "StaveHouseModel" "StaveHouseModel" "out" "[B") ∈ wAll := wA_12 (j := 5) rfl rfl
theorem k_12_7 : (Jvm.Cond.lays "StaveHouseModel" "StaveHouseModel" "outs" "I") ∈ wAll := wA_12 (j := 7) rfl rfl
theorem k_12_9 : (Jvm.Cond.lays "StaveHouseModel" "StaveHouseModel" "isOpen" "Z") ∈ wAll := wA_12 (j := 9) rfl rfl
theorem k_12_11 : (Jvm.Cond.laysFinal "StaveHouseModel" "StaveHouseModel" "told" "[I") ∈ wAll := wA_12 (j := 11) rfl rfl
theorem k_12_13 : (Jvm.Cond.laysFinal "StaveHouseModel" "StaveHouseModel" "toldNow" "[I") ∈ wAll := wA_12 (j := 13) rfl rfl
theorem k_12_15 : (Jvm.Cond.laysFinal "StaveHouseModel" "StaveHouseModel" "soundTrack" "[I") ∈ wAll := wA_12 (j := 15) rfl rfl
theorem k_12_17 : (Jvm.Cond.laysFinal "StaveHouseModel" "StaveHouseModel" "soundChannel" "[I") ∈ wAll := wA_12 (j := 17) rfl rfl
theorem k_12_19 : (Jvm.Cond.laysFinal "StaveHouseModel" "StaveHouseModel" "soundTone" "[I") ∈ wAll := wA_12 (j := 19) rfl rfl
theorem k_12_21 : (Jvm.Cond.laysFinal "StaveHouseModel" "StaveHouseModel" "soundForce" "[I") ∈ wAll := wA_12 (j := 21) rfl rfl
theorem k_12_23 : (Jvm.Cond.laysFinal "StaveHouseModel" "StaveHouseModel" "soundBegin" "[J") ∈ wAll := wA_12 (j := 23) rfl rfl
theorem k_12_25 : (Jvm.Cond.laysFinal "StaveHouseModel" "StaveHouseModel" "soundEnd" "[J") ∈ wAll := wA_12 (j := 25) rfl rfl
theorem k_12_27 : (Jvm.Cond.laysFinal "StaveHouseModel" "StaveHouseModel" "trackNumber" "[I") ∈ wAll := wA_12 (j := 27) rfl rfl
theorem k_12_29 : (Jvm.Cond.laysFinal "StaveHouseModel" "StaveHouseModel" "nowTrack" "[I") ∈ wAll := wA_12 (j := 29) rfl rfl
theorem k_12_31 : (Jvm.Cond.laysFinal "StaveHouseModel" "StaveHouseModel" "nowChannel" "[I") ∈ wAll := wA_12 (j := 31) rfl rfl
theorem k_12_33 : (Jvm.Cond.laysFinal "StaveHouseModel" "StaveHouseModel" "nowTone" "[I") ∈ wAll := wA_12 (j := 33) rfl rfl
theorem k_12_35 : (Jvm.Cond.laysFinal "StaveHouseModel" "StaveHouseModel" "nowForce" "[I") ∈ wAll := wA_12 (j := 35) rfl rfl
theorem k_12_37 : (Jvm.Cond.laysFinal "StaveHouseModel" "StaveHouseModel" "nowBegin" "[J") ∈ wAll := wA_12 (j := 37) rfl rfl
theorem k_12_39 : (Jvm.Cond.laysFinal "StaveHouseModel" "StaveHouseModel" "nowEnd" "[J") ∈ wAll := wA_12 (j := 39) rfl rfl
theorem k_12_41 : (Jvm.Cond.laysFinal "StaveHouseModel" "StaveHouseModel" "nowNumber" "[I") ∈ wAll := wA_12 (j := 41) rfl rfl
theorem k_12_43 : (Jvm.Cond.lays "StaveHouseModel" "StaveHouseModel" "p" "I") ∈ wAll := wA_12 (j := 43) rfl rfl
theorem k_12_45 : (Jvm.Cond.lays "StaveHouseModel" "StaveHouseModel" "limit" "J") ∈ wAll := wA_12 (j := 45) rfl rfl
theorem k_12_47 : (Jvm.Cond.lays "StaveHouseModel" "StaveHouseModel" "hasTime" "Z") ∈ wAll := wA_12 (j := 47) rfl rfl
theorem k_12_49 : (Jvm.Cond.lays "StaveHouseModel" "StaveHouseModel" "hasKey" "Z") ∈ wAll := wA_12 (j := 49) rfl rfl
theorem k_12_51 : (Jvm.Cond.lays "StaveHouseModel" "StaveHouseModel" "hasTempo" "Z") ∈ wAll := wA_12 (j := 51) rfl rfl
theorem k_12_53 : (Jvm.Cond.lays "StaveHouseModel" "StaveHouseModel" "nowSounds" "I") ∈ wAll := wA_12 (j := 53) rfl rfl
theorem k_12_55 : (Jvm.Cond.laysFinal "StaveHouseModel" "StaveHouseModel" "sixTones" "[I") ∈ wAll := wA_12 (j := 55) rfl rfl
theorem k_12_57 : (Jvm.Cond.laysFinal "StaveHouseModel" "StaveHouseModel" "table" "[I") ∈ wAll := wA_12 (j := 57) rfl rfl
theorem k_12_59 : (Jvm.Cond.laysFinal "StaveHouseModel" "StaveHouseModel" "moves" "[I") ∈ wAll := wA_12 (j := 59) rfl rfl
theorem k_12_61 : (Jvm.Cond.laysFinal "StaveHouseModel" "StaveHouseModel" "classLetter" "[I") ∈ wAll := wA_12 (j := 61) rfl rfl
theorem k_12_63 : (Jvm.Cond.laysFinal "StaveHouseModel" "StaveHouseModel" "classAlt" "[I") ∈ wAll := wA_12 (j := 63) rfl rfl
theorem k_12_65 : (Jvm.Cond.lays "StaveHouseModel" "StaveHouseModel" "classes" "I") ∈ wAll := wA_12 (j := 65) rfl rfl
theorem k_12_67 : (Jvm.Cond.lays "StaveHouseModel" "StaveHouseModel" "bass" "I") ∈ wAll := wA_12 (j := 67) rfl rfl
theorem k_12_69 : (Jvm.Cond.lays "StaveHouseModel" "StaveHouseModel" "bassStep" "I") ∈ wAll := wA_12 (j := 69) rfl rfl
theorem k_12_71 : (Jvm.Cond.lays "StaveHouseModel" "StaveHouseModel" "bassAlt" "I") ∈ wAll := wA_12 (j := 71) rfl rfl
theorem k_12_73 : (Jvm.Cond.lays "StaveHouseModel" "StaveHouseModel" "chordKind" "I") ∈ wAll := wA_12 (j := 73) rfl rfl
theorem k_12_75 : (Jvm.Cond.lays "StaveHouseModel" "StaveHouseModel" "root" "I") ∈ wAll := wA_12 (j := 75) rfl rfl
theorem k_12_77 : (Jvm.Cond.laysFinal "StaveHouseModel" "StaveHouseModel" "weights" "[I") ∈ wAll := wA_12 (j := 77) rfl rfl
theorem d_15_11_0 : decode prog_15_method_11_code 0 = .ok (.aload_n 0, 1) := by decide +kernel
theorem d_15_11_1 : decode prog_15_method_11_code 1 = .ok (.invokespecial 24, 3) := by decide +kernel
theorem d_15_11_4 : decode prog_15_method_11_code 4 = .ok (.aload_n 0, 1) := by decide +kernel
theorem d_15_11_5 : decode prog_15_method_11_code 5 = .ok (.lconst 1, 1) := by decide +kernel
theorem d_15_11_6 : decode prog_15_method_11_code 6 = .ok (.putfield 13, 3) := by decide +kernel
theorem d_15_11_9 : decode prog_15_method_11_code 9 = .ok (.aload_n 0, 1) := by decide +kernel
theorem d_15_11_10 : decode prog_15_method_11_code 10 = .ok (.sipush 3000, 3) := by decide +kernel
theorem d_15_11_13 : decode prog_15_method_11_code 13 = .ok (.newarray .byte, 2) := by decide +kernel
theorem d_15_11_15 : decode prog_15_method_11_code 15 = .ok (.putfield 30, 3) := by decide +kernel
theorem d_15_11_18 : decode prog_15_method_11_code 18 = .ok (.aload_n 0, 1) := by decide +kernel
theorem d_15_11_19 : decode prog_15_method_11_code 19 = .ok (.bipush 20, 2) := by decide +kernel
theorem d_15_11_21 : decode prog_15_method_11_code 21 = .ok (.newarray .byte, 2) := by decide +kernel
theorem d_15_11_23 : decode prog_15_method_11_code 23 = .ok (.putfield 34, 3) := by decide +kernel
theorem d_15_11_26 : decode prog_15_method_11_code 26 = .ok (.aload_n 0, 1) := by decide +kernel
theorem d_15_11_27 : decode prog_15_method_11_code 27 = .ok (.iconst 2, 1) := by decide +kernel
theorem d_15_11_28 : decode prog_15_method_11_code 28 = .ok (.anewarray 37, 3) := by decide +kernel
theorem d_15_11_31 : decode prog_15_method_11_code 31 = .ok (.dup, 1) := by decide +kernel
theorem d_15_11_32 : decode prog_15_method_11_code 32 = .ok (.iconst 0, 1) := by decide +kernel
theorem d_15_11_33 : decode prog_15_method_11_code 33 = .ok (.new 37, 3) := by decide +kernel
theorem d_15_11_36 : decode prog_15_method_11_code 36 = .ok (.dup, 1) := by decide +kernel
theorem d_15_11_37 : decode prog_15_method_11_code 37 = .ok (.invokespecial 39, 3) := by decide +kernel
theorem d_15_11_40 : decode prog_15_method_11_code 40 = .ok (.aastore, 1) := by decide +kernel
theorem d_15_11_41 : decode prog_15_method_11_code 41 = .ok (.dup, 1) := by decide +kernel
theorem d_15_11_42 : decode prog_15_method_11_code 42 = .ok (.iconst 1, 1) := by decide +kernel
theorem d_15_11_43 : decode prog_15_method_11_code 43 = .ok (.new 37, 3) := by decide +kernel
theorem d_15_11_46 : decode prog_15_method_11_code 46 = .ok (.dup, 1) := by decide +kernel
theorem d_15_11_47 : decode prog_15_method_11_code 47 = .ok (.invokespecial 39, 3) := by decide +kernel
theorem d_15_11_50 : decode prog_15_method_11_code 50 = .ok (.aastore, 1) := by decide +kernel
theorem d_15_11_51 : decode prog_15_method_11_code 51 = .ok (.putfield 40, 3) := by decide +kernel
theorem d_15_11_54 : decode prog_15_method_11_code 54 = .ok (.aload_n 0, 1) := by decide +kernel
theorem d_15_11_55 : decode prog_15_method_11_code 55 = .ok (.new 37, 3) := by decide +kernel
theorem d_15_11_58 : decode prog_15_method_11_code 58 = .ok (.dup, 1) := by decide +kernel
theorem d_15_11_59 : decode prog_15_method_11_code 59 = .ok (.invokespecial 39, 3) := by decide +kernel
theorem d_15_11_62 : decode prog_15_method_11_code 62 = .ok (.putfield 44, 3) := by decide +kernel
theorem d_15_11_65 : decode prog_15_method_11_code 65 = .ok (.aload_n 0, 1) := by decide +kernel
theorem d_15_11_66 : decode prog_15_method_11_code 66 = .ok (.sipush 3001, 3) := by decide +kernel
theorem d_15_11_69 : decode prog_15_method_11_code 69 = .ok (.newarray .int, 2) := by decide +kernel
theorem d_15_11_71 : decode prog_15_method_11_code 71 = .ok (.putfield 48, 3) := by decide +kernel
theorem d_15_11_74 : decode prog_15_method_11_code 74 = .ok (.aload_n 0, 1) := by decide +kernel
theorem d_15_11_75 : decode prog_15_method_11_code 75 = .ok (.sipush 3001, 3) := by decide +kernel
theorem d_15_11_78 : decode prog_15_method_11_code 78 = .ok (.newarray .int, 2) := by decide +kernel
theorem d_15_11_80 : decode prog_15_method_11_code 80 = .ok (.putfield 52, 3) := by decide +kernel
theorem d_15_11_83 : decode prog_15_method_11_code 83 = .ok (.aload_n 0, 1) := by decide +kernel
theorem d_15_11_84 : decode prog_15_method_11_code 84 = .ok (.sipush 3001, 3) := by decide +kernel
theorem d_15_11_87 : decode prog_15_method_11_code 87 = .ok (.newarray .int, 2) := by decide +kernel
theorem d_15_11_89 : decode prog_15_method_11_code 89 = .ok (.putfield 55, 3) := by decide +kernel
theorem d_15_11_92 : decode prog_15_method_11_code 92 = .ok (.aload_n 0, 1) := by decide +kernel
theorem d_15_11_93 : decode prog_15_method_11_code 93 = .ok (.sipush 3001, 3) := by decide +kernel
theorem d_15_11_96 : decode prog_15_method_11_code 96 = .ok (.newarray .int, 2) := by decide +kernel
theorem d_15_11_98 : decode prog_15_method_11_code 98 = .ok (.putfield 58, 3) := by decide +kernel
theorem d_15_11_101 : decode prog_15_method_11_code 101 = .ok (.aload_n 0, 1) := by decide +kernel
theorem d_15_11_102 : decode prog_15_method_11_code 102 = .ok (.sipush 3001, 3) := by decide +kernel
theorem d_15_11_105 : decode prog_15_method_11_code 105 = .ok (.newarray .long, 2) := by decide +kernel
theorem d_15_11_107 : decode prog_15_method_11_code 107 = .ok (.putfield 61, 3) := by decide +kernel
theorem d_15_11_110 : decode prog_15_method_11_code 110 = .ok (.aload_n 0, 1) := by decide +kernel
theorem d_15_11_111 : decode prog_15_method_11_code 111 = .ok (.iconst 4, 1) := by decide +kernel
theorem d_15_11_112 : decode prog_15_method_11_code 112 = .ok (.newarray .long, 2) := by decide +kernel
theorem d_15_11_114 : decode prog_15_method_11_code 114 = .ok (.dup, 1) := by decide +kernel
theorem d_15_11_115 : decode prog_15_method_11_code 115 = .ok (.iconst 0, 1) := by decide +kernel
theorem d_15_11_116 : decode prog_15_method_11_code 116 = .ok (.ldc 65, 2) := by decide +kernel
theorem d_15_11_118 : decode prog_15_method_11_code 118 = .ok (.invokestatic 67, 3) := by decide +kernel
theorem d_15_11_121 : decode prog_15_method_11_code 121 = .ok (.lastore, 1) := by decide +kernel
theorem d_15_11_122 : decode prog_15_method_11_code 122 = .ok (.dup, 1) := by decide +kernel
theorem d_15_11_123 : decode prog_15_method_11_code 123 = .ok (.iconst 1, 1) := by decide +kernel
theorem d_15_11_124 : decode prog_15_method_11_code 124 = .ok (.ldc 71, 2) := by decide +kernel
theorem d_15_11_126 : decode prog_15_method_11_code 126 = .ok (.invokestatic 67, 3) := by decide +kernel
theorem d_15_11_129 : decode prog_15_method_11_code 129 = .ok (.lastore, 1) := by decide +kernel
theorem d_15_11_130 : decode prog_15_method_11_code 130 = .ok (.dup, 1) := by decide +kernel
theorem d_15_11_131 : decode prog_15_method_11_code 131 = .ok (.iconst 2, 1) := by decide +kernel
theorem d_15_11_132 : decode prog_15_method_11_code 132 = .ok (.ldc 73, 2) := by decide +kernel
theorem d_15_11_134 : decode prog_15_method_11_code 134 = .ok (.invokestatic 67, 3) := by decide +kernel
theorem d_15_11_137 : decode prog_15_method_11_code 137 = .ok (.lastore, 1) := by decide +kernel
theorem d_15_11_138 : decode prog_15_method_11_code 138 = .ok (.dup, 1) := by decide +kernel
theorem d_15_11_139 : decode prog_15_method_11_code 139 = .ok (.iconst 3, 1) := by decide +kernel
theorem d_15_11_140 : decode prog_15_method_11_code 140 = .ok (.ldc 75, 2) := by decide +kernel
theorem d_15_11_142 : decode prog_15_method_11_code 142 = .ok (.invokestatic 67, 3) := by decide +kernel
theorem d_15_11_145 : decode prog_15_method_11_code 145 = .ok (.lastore, 1) := by decide +kernel
theorem d_15_11_146 : decode prog_15_method_11_code 146 = .ok (.putfield 77, 3) := by decide +kernel
theorem d_15_11_149 : decode prog_15_method_11_code 149 = .ok (.aload_n 0, 1) := by decide +kernel
theorem d_15_11_150 : decode prog_15_method_11_code 150 = .ok (.bipush 8, 2) := by decide +kernel
theorem d_15_11_152 : decode prog_15_method_11_code 152 = .ok (.newarray .long, 2) := by decide +kernel
theorem d_15_11_154 : decode prog_15_method_11_code 154 = .ok (.dup, 1) := by decide +kernel
theorem d_15_11_155 : decode prog_15_method_11_code 155 = .ok (.iconst 0, 1) := by decide +kernel
theorem d_15_11_156 : decode prog_15_method_11_code 156 = .ok (.ldc 80, 2) := by decide +kernel
theorem d_15_11_158 : decode prog_15_method_11_code 158 = .ok (.invokestatic 67, 3) := by decide +kernel
theorem d_15_11_161 : decode prog_15_method_11_code 161 = .ok (.lastore, 1) := by decide +kernel
theorem d_15_11_162 : decode prog_15_method_11_code 162 = .ok (.dup, 1) := by decide +kernel
theorem d_15_11_163 : decode prog_15_method_11_code 163 = .ok (.iconst 1, 1) := by decide +kernel
theorem d_15_11_164 : decode prog_15_method_11_code 164 = .ok (.ldc 82, 2) := by decide +kernel
theorem d_15_11_166 : decode prog_15_method_11_code 166 = .ok (.invokestatic 67, 3) := by decide +kernel
theorem d_15_11_169 : decode prog_15_method_11_code 169 = .ok (.lastore, 1) := by decide +kernel
theorem d_15_11_170 : decode prog_15_method_11_code 170 = .ok (.dup, 1) := by decide +kernel
theorem d_15_11_171 : decode prog_15_method_11_code 171 = .ok (.iconst 2, 1) := by decide +kernel
theorem d_15_11_172 : decode prog_15_method_11_code 172 = .ok (.ldc 84, 2) := by decide +kernel
theorem d_15_11_174 : decode prog_15_method_11_code 174 = .ok (.invokestatic 67, 3) := by decide +kernel
theorem d_15_11_177 : decode prog_15_method_11_code 177 = .ok (.lastore, 1) := by decide +kernel
theorem d_15_11_178 : decode prog_15_method_11_code 178 = .ok (.dup, 1) := by decide +kernel
theorem d_15_11_179 : decode prog_15_method_11_code 179 = .ok (.iconst 3, 1) := by decide +kernel
theorem d_15_11_180 : decode prog_15_method_11_code 180 = .ok (.ldc 86, 2) := by decide +kernel
theorem d_15_11_182 : decode prog_15_method_11_code 182 = .ok (.invokestatic 67, 3) := by decide +kernel
theorem d_15_11_185 : decode prog_15_method_11_code 185 = .ok (.lastore, 1) := by decide +kernel
theorem d_15_11_186 : decode prog_15_method_11_code 186 = .ok (.dup, 1) := by decide +kernel
theorem d_15_11_187 : decode prog_15_method_11_code 187 = .ok (.iconst 4, 1) := by decide +kernel
theorem d_15_11_188 : decode prog_15_method_11_code 188 = .ok (.ldc 88, 2) := by decide +kernel
theorem d_15_11_190 : decode prog_15_method_11_code 190 = .ok (.invokestatic 67, 3) := by decide +kernel
theorem d_15_11_193 : decode prog_15_method_11_code 193 = .ok (.lastore, 1) := by decide +kernel
theorem d_15_11_194 : decode prog_15_method_11_code 194 = .ok (.dup, 1) := by decide +kernel
theorem d_15_11_195 : decode prog_15_method_11_code 195 = .ok (.iconst 5, 1) := by decide +kernel
theorem d_15_11_196 : decode prog_15_method_11_code 196 = .ok (.ldc 90, 2) := by decide +kernel
theorem d_15_11_198 : decode prog_15_method_11_code 198 = .ok (.invokestatic 67, 3) := by decide +kernel
theorem d_15_11_201 : decode prog_15_method_11_code 201 = .ok (.lastore, 1) := by decide +kernel
theorem d_15_11_202 : decode prog_15_method_11_code 202 = .ok (.dup, 1) := by decide +kernel
theorem d_15_11_203 : decode prog_15_method_11_code 203 = .ok (.bipush 6, 2) := by decide +kernel
theorem d_15_11_205 : decode prog_15_method_11_code 205 = .ok (.ldc 92, 2) := by decide +kernel
theorem d_15_11_207 : decode prog_15_method_11_code 207 = .ok (.invokestatic 67, 3) := by decide +kernel
theorem d_15_11_210 : decode prog_15_method_11_code 210 = .ok (.lastore, 1) := by decide +kernel
theorem d_15_11_211 : decode prog_15_method_11_code 211 = .ok (.dup, 1) := by decide +kernel
theorem d_15_11_212 : decode prog_15_method_11_code 212 = .ok (.bipush 7, 2) := by decide +kernel
theorem d_15_11_214 : decode prog_15_method_11_code 214 = .ok (.ldc 94, 2) := by decide +kernel
theorem d_15_11_216 : decode prog_15_method_11_code 216 = .ok (.invokestatic 67, 3) := by decide +kernel
theorem d_15_11_219 : decode prog_15_method_11_code 219 = .ok (.lastore, 1) := by decide +kernel
theorem d_15_11_220 : decode prog_15_method_11_code 220 = .ok (.putfield 96, 3) := by decide +kernel
theorem d_15_11_223 : decode prog_15_method_11_code 223 = .ok (.aload_n 0, 1) := by decide +kernel
theorem d_15_11_224 : decode prog_15_method_11_code 224 = .ok (.bipush 15, 2) := by decide +kernel
theorem d_15_11_226 : decode prog_15_method_11_code 226 = .ok (.newarray .long, 2) := by decide +kernel
theorem d_15_11_228 : decode prog_15_method_11_code 228 = .ok (.dup, 1) := by decide +kernel
theorem d_15_11_229 : decode prog_15_method_11_code 229 = .ok (.iconst 0, 1) := by decide +kernel
theorem d_15_11_230 : decode prog_15_method_11_code 230 = .ok (.getstatic 99, 3) := by decide +kernel
theorem d_15_11_233 : decode prog_15_method_11_code 233 = .ok (.lastore, 1) := by decide +kernel
theorem d_15_11_234 : decode prog_15_method_11_code 234 = .ok (.dup, 1) := by decide +kernel
theorem d_15_11_235 : decode prog_15_method_11_code 235 = .ok (.iconst 1, 1) := by decide +kernel
theorem d_15_11_236 : decode prog_15_method_11_code 236 = .ok (.getstatic 102, 3) := by decide +kernel
theorem d_15_11_239 : decode prog_15_method_11_code 239 = .ok (.lastore, 1) := by decide +kernel
theorem d_15_11_240 : decode prog_15_method_11_code 240 = .ok (.dup, 1) := by decide +kernel
theorem d_15_11_241 : decode prog_15_method_11_code 241 = .ok (.iconst 2, 1) := by decide +kernel
theorem d_15_11_242 : decode prog_15_method_11_code 242 = .ok (.getstatic 105, 3) := by decide +kernel
theorem d_15_11_245 : decode prog_15_method_11_code 245 = .ok (.lastore, 1) := by decide +kernel
theorem d_15_11_246 : decode prog_15_method_11_code 246 = .ok (.dup, 1) := by decide +kernel
theorem d_15_11_247 : decode prog_15_method_11_code 247 = .ok (.iconst 3, 1) := by decide +kernel
theorem d_15_11_248 : decode prog_15_method_11_code 248 = .ok (.getstatic 108, 3) := by decide +kernel
theorem d_15_11_251 : decode prog_15_method_11_code 251 = .ok (.lastore, 1) := by decide +kernel
theorem d_15_11_252 : decode prog_15_method_11_code 252 = .ok (.dup, 1) := by decide +kernel
theorem d_15_11_253 : decode prog_15_method_11_code 253 = .ok (.iconst 4, 1) := by decide +kernel
theorem d_15_11_254 : decode prog_15_method_11_code 254 = .ok (.getstatic 111, 3) := by decide +kernel
theorem d_15_11_257 : decode prog_15_method_11_code 257 = .ok (.lastore, 1) := by decide +kernel
theorem d_15_11_258 : decode prog_15_method_11_code 258 = .ok (.dup, 1) := by decide +kernel
theorem d_15_11_259 : decode prog_15_method_11_code 259 = .ok (.iconst 5, 1) := by decide +kernel
theorem d_15_11_260 : decode prog_15_method_11_code 260 = .ok (.getstatic 114, 3) := by decide +kernel
theorem d_15_11_263 : decode prog_15_method_11_code 263 = .ok (.lastore, 1) := by decide +kernel
theorem d_15_11_264 : decode prog_15_method_11_code 264 = .ok (.dup, 1) := by decide +kernel
theorem d_15_11_265 : decode prog_15_method_11_code 265 = .ok (.bipush 6, 2) := by decide +kernel
theorem d_15_11_267 : decode prog_15_method_11_code 267 = .ok (.getstatic 117, 3) := by decide +kernel
theorem d_15_11_270 : decode prog_15_method_11_code 270 = .ok (.lastore, 1) := by decide +kernel
theorem d_15_11_271 : decode prog_15_method_11_code 271 = .ok (.dup, 1) := by decide +kernel
theorem d_15_11_272 : decode prog_15_method_11_code 272 = .ok (.bipush 7, 2) := by decide +kernel
theorem d_15_11_274 : decode prog_15_method_11_code 274 = .ok (.getstatic 120, 3) := by decide +kernel
theorem d_15_11_277 : decode prog_15_method_11_code 277 = .ok (.lastore, 1) := by decide +kernel
theorem d_15_11_278 : decode prog_15_method_11_code 278 = .ok (.dup, 1) := by decide +kernel
theorem d_15_11_279 : decode prog_15_method_11_code 279 = .ok (.bipush 8, 2) := by decide +kernel
theorem d_15_11_281 : decode prog_15_method_11_code 281 = .ok (.getstatic 123, 3) := by decide +kernel
theorem d_15_11_284 : decode prog_15_method_11_code 284 = .ok (.lastore, 1) := by decide +kernel
theorem d_15_11_285 : decode prog_15_method_11_code 285 = .ok (.dup, 1) := by decide +kernel
theorem d_15_11_286 : decode prog_15_method_11_code 286 = .ok (.bipush 9, 2) := by decide +kernel
theorem d_15_11_288 : decode prog_15_method_11_code 288 = .ok (.getstatic 126, 3) := by decide +kernel
theorem d_15_11_291 : decode prog_15_method_11_code 291 = .ok (.lastore, 1) := by decide +kernel
theorem d_15_11_292 : decode prog_15_method_11_code 292 = .ok (.dup, 1) := by decide +kernel
theorem d_15_11_293 : decode prog_15_method_11_code 293 = .ok (.bipush 10, 2) := by decide +kernel
theorem d_15_11_295 : decode prog_15_method_11_code 295 = .ok (.getstatic 129, 3) := by decide +kernel
theorem d_15_11_298 : decode prog_15_method_11_code 298 = .ok (.lastore, 1) := by decide +kernel
theorem d_15_11_299 : decode prog_15_method_11_code 299 = .ok (.dup, 1) := by decide +kernel
theorem d_15_11_300 : decode prog_15_method_11_code 300 = .ok (.bipush 11, 2) := by decide +kernel
theorem d_15_11_302 : decode prog_15_method_11_code 302 = .ok (.getstatic 132, 3) := by decide +kernel
theorem d_15_11_305 : decode prog_15_method_11_code 305 = .ok (.lastore, 1) := by decide +kernel
theorem d_15_11_306 : decode prog_15_method_11_code 306 = .ok (.dup, 1) := by decide +kernel
theorem d_15_11_307 : decode prog_15_method_11_code 307 = .ok (.bipush 12, 2) := by decide +kernel
theorem d_15_11_309 : decode prog_15_method_11_code 309 = .ok (.getstatic 135, 3) := by decide +kernel
theorem d_15_11_312 : decode prog_15_method_11_code 312 = .ok (.lastore, 1) := by decide +kernel
theorem d_15_11_313 : decode prog_15_method_11_code 313 = .ok (.dup, 1) := by decide +kernel
theorem d_15_11_314 : decode prog_15_method_11_code 314 = .ok (.bipush 13, 2) := by decide +kernel
theorem d_15_11_316 : decode prog_15_method_11_code 316 = .ok (.getstatic 138, 3) := by decide +kernel
theorem d_15_11_319 : decode prog_15_method_11_code 319 = .ok (.lastore, 1) := by decide +kernel
theorem d_15_11_320 : decode prog_15_method_11_code 320 = .ok (.dup, 1) := by decide +kernel
theorem d_15_11_321 : decode prog_15_method_11_code 321 = .ok (.bipush 14, 2) := by decide +kernel
theorem d_15_11_323 : decode prog_15_method_11_code 323 = .ok (.getstatic 141, 3) := by decide +kernel
theorem d_15_11_326 : decode prog_15_method_11_code 326 = .ok (.lastore, 1) := by decide +kernel
theorem d_15_11_327 : decode prog_15_method_11_code 327 = .ok (.putfield 144, 3) := by decide +kernel
theorem d_15_11_330 : decode prog_15_method_11_code 330 = .ok (.aload_n 0, 1) := by decide +kernel
theorem d_15_11_331 : decode prog_15_method_11_code 331 = .ok (.bipush 6, 2) := by decide +kernel
theorem d_15_11_333 : decode prog_15_method_11_code 333 = .ok (.newarray .long, 2) := by decide +kernel
theorem d_15_11_335 : decode prog_15_method_11_code 335 = .ok (.putfield 147, 3) := by decide +kernel
theorem d_15_11_338 : decode prog_15_method_11_code 338 = .ok (.aload_n 0, 1) := by decide +kernel
theorem d_15_11_339 : decode prog_15_method_11_code 339 = .ok (.bipush 6, 2) := by decide +kernel
theorem d_15_11_341 : decode prog_15_method_11_code 341 = .ok (.newarray .int, 2) := by decide +kernel
theorem d_15_11_343 : decode prog_15_method_11_code 343 = .ok (.putfield 150, 3) := by decide +kernel
theorem d_15_11_346 : decode prog_15_method_11_code 346 = .ok (.aload_n 0, 1) := by decide +kernel
theorem d_15_11_347 : decode prog_15_method_11_code 347 = .ok (.iconst 4, 1) := by decide +kernel
theorem d_15_11_348 : decode prog_15_method_11_code 348 = .ok (.newarray .int, 2) := by decide +kernel
theorem d_15_11_350 : decode prog_15_method_11_code 350 = .ok (.putfield 153, 3) := by decide +kernel
theorem d_15_11_353 : decode prog_15_method_11_code 353 = .ok (.aload_n 0, 1) := by decide +kernel
theorem d_15_11_354 : decode prog_15_method_11_code 354 = .ok (.iconst 4, 1) := by decide +kernel
theorem d_15_11_355 : decode prog_15_method_11_code 355 = .ok (.newarray .int, 2) := by decide +kernel
theorem d_15_11_357 : decode prog_15_method_11_code 357 = .ok (.putfield 156, 3) := by decide +kernel
theorem d_15_11_360 : decode prog_15_method_11_code 360 = .ok (.aload_n 0, 1) := by decide +kernel
theorem d_15_11_361 : decode prog_15_method_11_code 361 = .ok (.sipush 3001, 3) := by decide +kernel
theorem d_15_11_364 : decode prog_15_method_11_code 364 = .ok (.newarray .int, 2) := by decide +kernel
theorem d_15_11_366 : decode prog_15_method_11_code 366 = .ok (.putfield 159, 3) := by decide +kernel
theorem d_15_11_369 : decode prog_15_method_11_code 369 = .ok (.aload_n 0, 1) := by decide +kernel
theorem d_15_11_370 : decode prog_15_method_11_code 370 = .ok (.sipush 3001, 3) := by decide +kernel
theorem d_15_11_373 : decode prog_15_method_11_code 373 = .ok (.newarray .int, 2) := by decide +kernel
theorem d_15_11_375 : decode prog_15_method_11_code 375 = .ok (.putfield 162, 3) := by decide +kernel
theorem d_15_11_378 : decode prog_15_method_11_code 378 = .ok (.aload_n 0, 1) := by decide +kernel
theorem d_15_11_379 : decode prog_15_method_11_code 379 = .ok (.sipush 3001, 3) := by decide +kernel
theorem d_15_11_382 : decode prog_15_method_11_code 382 = .ok (.newarray .int, 2) := by decide +kernel
theorem d_15_11_384 : decode prog_15_method_11_code 384 = .ok (.putfield 165, 3) := by decide +kernel
theorem d_15_11_387 : decode prog_15_method_11_code 387 = .ok (.aload_n 0, 1) := by decide +kernel
theorem d_15_11_388 : decode prog_15_method_11_code 388 = .ok (.sipush 3001, 3) := by decide +kernel
theorem d_15_11_391 : decode prog_15_method_11_code 391 = .ok (.newarray .int, 2) := by decide +kernel
theorem d_15_11_393 : decode prog_15_method_11_code 393 = .ok (.putfield 168, 3) := by decide +kernel
theorem d_15_11_396 : decode prog_15_method_11_code 396 = .ok (.aload_n 0, 1) := by decide +kernel
theorem d_15_11_397 : decode prog_15_method_11_code 397 = .ok (.sipush 3001, 3) := by decide +kernel
theorem d_15_11_400 : decode prog_15_method_11_code 400 = .ok (.newarray .int, 2) := by decide +kernel
theorem d_15_11_402 : decode prog_15_method_11_code 402 = .ok (.putfield 171, 3) := by decide +kernel
theorem d_15_11_405 : decode prog_15_method_11_code 405 = .ok (.aload_n 0, 1) := by decide +kernel
theorem d_15_11_406 : decode prog_15_method_11_code 406 = .ok (.bipush 100, 2) := by decide +kernel
theorem d_15_11_408 : decode prog_15_method_11_code 408 = .ok (.newarray .boolean, 2) := by decide +kernel
theorem d_15_11_410 : decode prog_15_method_11_code 410 = .ok (.putfield 174, 3) := by decide +kernel
theorem d_15_11_413 : decode prog_15_method_11_code 413 = .ok (.aload_n 0, 1) := by decide +kernel
theorem d_15_11_414 : decode prog_15_method_11_code 414 = .ok (.bipush 100, 2) := by decide +kernel
theorem d_15_11_416 : decode prog_15_method_11_code 416 = .ok (.newarray .int, 2) := by decide +kernel
theorem d_15_11_418 : decode prog_15_method_11_code 418 = .ok (.putfield 178, 3) := by decide +kernel
theorem d_15_11_421 : decode prog_15_method_11_code 421 = .ok (.aload_n 0, 1) := by decide +kernel
theorem d_15_11_422 : decode prog_15_method_11_code 422 = .ok (.bipush 100, 2) := by decide +kernel
theorem d_15_11_424 : decode prog_15_method_11_code 424 = .ok (.newarray .int, 2) := by decide +kernel
theorem d_15_11_426 : decode prog_15_method_11_code 426 = .ok (.putfield 181, 3) := by decide +kernel
theorem d_15_11_429 : decode prog_15_method_11_code 429 = .ok (.aload_n 0, 1) := by decide +kernel
theorem d_15_11_430 : decode prog_15_method_11_code 430 = .ok (.bipush 100, 2) := by decide +kernel
theorem d_15_11_432 : decode prog_15_method_11_code 432 = .ok (.newarray .int, 2) := by decide +kernel
theorem d_15_11_434 : decode prog_15_method_11_code 434 = .ok (.putfield 184, 3) := by decide +kernel
theorem d_15_11_437 : decode prog_15_method_11_code 437 = .ok (.aload_n 0, 1) := by decide +kernel
theorem d_15_11_438 : decode prog_15_method_11_code 438 = .ok (.bipush 100, 2) := by decide +kernel
theorem d_15_11_440 : decode prog_15_method_11_code 440 = .ok (.newarray .int, 2) := by decide +kernel
theorem d_15_11_442 : decode prog_15_method_11_code 442 = .ok (.putfield 187, 3) := by decide +kernel
theorem d_15_11_445 : decode prog_15_method_11_code 445 = .ok (.aload_n 0, 1) := by decide +kernel
theorem d_15_11_446 : decode prog_15_method_11_code 446 = .ok (.bipush 8, 2) := by decide +kernel
theorem d_15_11_448 : decode prog_15_method_11_code 448 = .ok (.newarray .int, 2) := by decide +kernel
theorem d_15_11_450 : decode prog_15_method_11_code 450 = .ok (.putfield 190, 3) := by decide +kernel
theorem d_15_11_453 : decode prog_15_method_11_code 453 = .ok (.aload_n 0, 1) := by decide +kernel
theorem d_15_11_454 : decode prog_15_method_11_code 454 = .ok (.bipush 63, 2) := by decide +kernel
theorem d_15_11_456 : decode prog_15_method_11_code 456 = .ok (.newarray .int, 2) := by decide +kernel
theorem d_15_11_458 : decode prog_15_method_11_code 458 = .ok (.putfield 193, 3) := by decide +kernel
theorem d_15_11_461 : decode prog_15_method_11_code 461 = .ok (.aload_n 0, 1) := by decide +kernel
theorem d_15_11_462 : decode prog_15_method_11_code 462 = .ok (.bipush 101, 2) := by decide +kernel
theorem d_15_11_464 : decode prog_15_method_11_code 464 = .ok (.newarray .long, 2) := by decide +kernel
theorem d_15_11_466 : decode prog_15_method_11_code 466 = .ok (.putfield 196, 3) := by decide +kernel
theorem d_15_11_469 : decode prog_15_method_11_code 469 = .ok (.aload_n 0, 1) := by decide +kernel
theorem d_15_11_470 : decode prog_15_method_11_code 470 = .ok (.bipush 101, 2) := by decide +kernel
theorem d_15_11_472 : decode prog_15_method_11_code 472 = .ok (.newarray .int, 2) := by decide +kernel
theorem d_15_11_474 : decode prog_15_method_11_code 474 = .ok (.putfield 199, 3) := by decide +kernel
theorem d_15_11_477 : decode prog_15_method_11_code 477 = .ok (.aload_n 0, 1) := by decide +kernel
theorem d_15_11_478 : decode prog_15_method_11_code 478 = .ok (.bipush 8, 2) := by decide +kernel
theorem d_15_11_480 : decode prog_15_method_11_code 480 = .ok (.newarray .int, 2) := by decide +kernel
theorem d_15_11_482 : decode prog_15_method_11_code 482 = .ok (.dup, 1) := by decide +kernel
theorem d_15_11_483 : decode prog_15_method_11_code 483 = .ok (.iconst 0, 1) := by decide +kernel
theorem d_15_11_484 : decode prog_15_method_11_code 484 = .ok (.bipush 20, 2) := by decide +kernel
theorem d_15_11_486 : decode prog_15_method_11_code 486 = .ok (.iastore, 1) := by decide +kernel
theorem d_15_11_487 : decode prog_15_method_11_code 487 = .ok (.dup, 1) := by decide +kernel
theorem d_15_11_488 : decode prog_15_method_11_code 488 = .ok (.iconst 1, 1) := by decide +kernel
theorem d_15_11_489 : decode prog_15_method_11_code 489 = .ok (.bipush 33, 2) := by decide +kernel
theorem d_15_11_491 : decode prog_15_method_11_code 491 = .ok (.iastore, 1) := by decide +kernel
theorem d_15_11_492 : decode prog_15_method_11_code 492 = .ok (.dup, 1) := by decide +kernel
theorem d_15_11_493 : decode prog_15_method_11_code 493 = .ok (.iconst 2, 1) := by decide +kernel
theorem d_15_11_494 : decode prog_15_method_11_code 494 = .ok (.bipush 46, 2) := by decide +kernel
theorem d_15_11_496 : decode prog_15_method_11_code 496 = .ok (.iastore, 1) := by decide +kernel
theorem d_15_11_497 : decode prog_15_method_11_code 497 = .ok (.dup, 1) := by decide +kernel
theorem d_15_11_498 : decode prog_15_method_11_code 498 = .ok (.iconst 3, 1) := by decide +kernel
theorem d_15_11_499 : decode prog_15_method_11_code 499 = .ok (.bipush 59, 2) := by decide +kernel
theorem d_15_11_501 : decode prog_15_method_11_code 501 = .ok (.iastore, 1) := by decide +kernel
theorem d_15_11_502 : decode prog_15_method_11_code 502 = .ok (.dup, 1) := by decide +kernel
theorem d_15_11_503 : decode prog_15_method_11_code 503 = .ok (.iconst 4, 1) := by decide +kernel
theorem d_15_11_504 : decode prog_15_method_11_code 504 = .ok (.bipush 72, 2) := by decide +kernel
theorem d_15_11_506 : decode prog_15_method_11_code 506 = .ok (.iastore, 1) := by decide +kernel
theorem d_15_11_507 : decode prog_15_method_11_code 507 = .ok (.dup, 1) := by decide +kernel
theorem d_15_11_508 : decode prog_15_method_11_code 508 = .ok (.iconst 5, 1) := by decide +kernel
theorem d_15_11_509 : decode prog_15_method_11_code 509 = .ok (.bipush 85, 2) := by decide +kernel
theorem d_15_11_511 : decode prog_15_method_11_code 511 = .ok (.iastore, 1) := by decide +kernel
theorem d_15_11_512 : decode prog_15_method_11_code 512 = .ok (.dup, 1) := by decide +kernel
theorem d_15_11_513 : decode prog_15_method_11_code 513 = .ok (.bipush 6, 2) := by decide +kernel
theorem d_15_11_515 : decode prog_15_method_11_code 515 = .ok (.bipush 98, 2) := by decide +kernel
theorem d_15_11_517 : decode prog_15_method_11_code 517 = .ok (.iastore, 1) := by decide +kernel
theorem d_15_11_518 : decode prog_15_method_11_code 518 = .ok (.dup, 1) := by decide +kernel
theorem d_15_11_519 : decode prog_15_method_11_code 519 = .ok (.bipush 7, 2) := by decide +kernel
theorem d_15_11_521 : decode prog_15_method_11_code 521 = .ok (.bipush 111, 2) := by decide +kernel
theorem d_15_11_523 : decode prog_15_method_11_code 523 = .ok (.iastore, 1) := by decide +kernel
theorem d_15_11_524 : decode prog_15_method_11_code 524 = .ok (.putfield 202, 3) := by decide +kernel
theorem d_15_11_527 : decode prog_15_method_11_code 527 = .ok (.aload_n 0, 1) := by decide +kernel
theorem d_15_11_528 : decode prog_15_method_11_code 528 = .ok (.sipush 2000, 3) := by decide +kernel
theorem d_15_11_531 : decode prog_15_method_11_code 531 = .ok (.newarray .int, 2) := by decide +kernel
theorem d_15_11_533 : decode prog_15_method_11_code 533 = .ok (.putfield 205, 3) := by decide +kernel
theorem d_15_11_536 : decode prog_15_method_11_code 536 = .ok (.aload_n 0, 1) := by decide +kernel
theorem d_15_11_537 : decode prog_15_method_11_code 537 = .ok (.sipush 2000, 3) := by decide +kernel
theorem d_15_11_540 : decode prog_15_method_11_code 540 = .ok (.newarray .int, 2) := by decide +kernel
theorem d_15_11_542 : decode prog_15_method_11_code 542 = .ok (.putfield 208, 3) := by decide +kernel
theorem d_15_11_545 : decode prog_15_method_11_code 545 = .ok (.aload_n 0, 1) := by decide +kernel
theorem d_15_11_546 : decode prog_15_method_11_code 546 = .ok (.sipush 2000, 3) := by decide +kernel
theorem d_15_11_549 : decode prog_15_method_11_code 549 = .ok (.newarray .int, 2) := by decide +kernel
theorem d_15_11_551 : decode prog_15_method_11_code 551 = .ok (.putfield 211, 3) := by decide +kernel
theorem d_15_11_554 : decode prog_15_method_11_code 554 = .ok (.aload_n 0, 1) := by decide +kernel
theorem d_15_11_555 : decode prog_15_method_11_code 555 = .ok (.sipush 2000, 3) := by decide +kernel
theorem d_15_11_558 : decode prog_15_method_11_code 558 = .ok (.newarray .int, 2) := by decide +kernel
theorem d_15_11_560 : decode prog_15_method_11_code 560 = .ok (.putfield 214, 3) := by decide +kernel
theorem d_15_11_563 : decode prog_15_method_11_code 563 = .ok (.aload_n 0, 1) := by decide +kernel
theorem d_15_11_564 : decode prog_15_method_11_code 564 = .ok (.sipush 2000, 3) := by decide +kernel
theorem d_15_11_567 : decode prog_15_method_11_code 567 = .ok (.newarray .int, 2) := by decide +kernel
theorem d_15_11_569 : decode prog_15_method_11_code 569 = .ok (.putfield 217, 3) := by decide +kernel
theorem d_15_11_572 : decode prog_15_method_11_code 572 = .ok (.aload_n 0, 1) := by decide +kernel
theorem d_15_11_573 : decode prog_15_method_11_code 573 = .ok (.sipush 2000, 3) := by decide +kernel
theorem d_15_11_576 : decode prog_15_method_11_code 576 = .ok (.newarray .int, 2) := by decide +kernel
theorem d_15_11_578 : decode prog_15_method_11_code 578 = .ok (.putfield 220, 3) := by decide +kernel
theorem d_15_11_581 : decode prog_15_method_11_code 581 = .ok (.aload_n 0, 1) := by decide +kernel
theorem d_15_11_582 : decode prog_15_method_11_code 582 = .ok (.sipush 4000, 3) := by decide +kernel
theorem d_15_11_585 : decode prog_15_method_11_code 585 = .ok (.newarray .int, 2) := by decide +kernel
theorem d_15_11_587 : decode prog_15_method_11_code 587 = .ok (.putfield 223, 3) := by decide +kernel
theorem d_15_11_590 : decode prog_15_method_11_code 590 = .ok (.aload_n 0, 1) := by decide +kernel
theorem d_15_11_591 : decode prog_15_method_11_code 591 = .ok (.ldc 226, 2) := by decide +kernel
theorem d_15_11_593 : decode prog_15_method_11_code 593 = .ok (.newarray .byte, 2) := by decide +kernel
theorem d_15_11_595 : decode prog_15_method_11_code 595 = .ok (.putfield 227, 3) := by decide +kernel
theorem d_15_11_598 : decode prog_15_method_11_code 598 = .ok (.aload_n 0, 1) := by decide +kernel
theorem d_15_11_599 : decode prog_15_method_11_code 599 = .ok (.bipush 8, 2) := by decide +kernel
theorem d_15_11_601 : decode prog_15_method_11_code 601 = .ok (.newarray .int, 2) := by decide +kernel
theorem d_15_11_603 : decode prog_15_method_11_code 603 = .ok (.putfield 230, 3) := by decide +kernel
theorem d_15_11_606 : decode prog_15_method_11_code 606 = .ok (.aload_n 0, 1) := by decide +kernel
theorem d_15_11_607 : decode prog_15_method_11_code 607 = .ok (.bipush 8, 2) := by decide +kernel
theorem d_15_11_609 : decode prog_15_method_11_code 609 = .ok (.newarray .int, 2) := by decide +kernel
theorem d_15_11_611 : decode prog_15_method_11_code 611 = .ok (.putfield 233, 3) := by decide +kernel
theorem d_15_11_614 : decode prog_15_method_11_code 614 = .ok (.aload_n 0, 1) := by decide +kernel
theorem d_15_11_615 : decode prog_15_method_11_code 615 = .ok (.sipush 400, 3) := by decide +kernel
theorem d_15_11_618 : decode prog_15_method_11_code 618 = .ok (.newarray .int, 2) := by decide +kernel
theorem d_15_11_620 : decode prog_15_method_11_code 620 = .ok (.putfield 236, 3) := by decide +kernel
theorem d_15_11_623 : decode prog_15_method_11_code 623 = .ok (.aload_n 0, 1) := by decide +kernel
theorem d_15_11_624 : decode prog_15_method_11_code 624 = .ok (.sipush 400, 3) := by decide +kernel
theorem d_15_11_627 : decode prog_15_method_11_code 627 = .ok (.newarray .int, 2) := by decide +kernel
theorem d_15_11_629 : decode prog_15_method_11_code 629 = .ok (.putfield 239, 3) := by decide +kernel
theorem d_15_11_632 : decode prog_15_method_11_code 632 = .ok (.aload_n 0, 1) := by decide +kernel
theorem d_15_11_633 : decode prog_15_method_11_code 633 = .ok (.sipush 400, 3) := by decide +kernel
theorem d_15_11_636 : decode prog_15_method_11_code 636 = .ok (.newarray .int, 2) := by decide +kernel
theorem d_15_11_638 : decode prog_15_method_11_code 638 = .ok (.putfield 242, 3) := by decide +kernel
theorem d_15_11_641 : decode prog_15_method_11_code 641 = .ok (.aload_n 0, 1) := by decide +kernel
theorem d_15_11_642 : decode prog_15_method_11_code 642 = .ok (.sipush 400, 3) := by decide +kernel
theorem d_15_11_645 : decode prog_15_method_11_code 645 = .ok (.newarray .int, 2) := by decide +kernel
theorem d_15_11_647 : decode prog_15_method_11_code 647 = .ok (.putfield 245, 3) := by decide +kernel
theorem d_15_11_650 : decode prog_15_method_11_code 650 = .ok (.aload_n 0, 1) := by decide +kernel
theorem d_15_11_651 : decode prog_15_method_11_code 651 = .ok (.sipush 400, 3) := by decide +kernel
theorem d_15_11_654 : decode prog_15_method_11_code 654 = .ok (.newarray .long, 2) := by decide +kernel
theorem d_15_11_656 : decode prog_15_method_11_code 656 = .ok (.putfield 248, 3) := by decide +kernel
theorem d_15_11_659 : decode prog_15_method_11_code 659 = .ok (.aload_n 0, 1) := by decide +kernel
theorem d_15_11_660 : decode prog_15_method_11_code 660 = .ok (.sipush 400, 3) := by decide +kernel
theorem d_15_11_663 : decode prog_15_method_11_code 663 = .ok (.newarray .long, 2) := by decide +kernel
theorem d_15_11_665 : decode prog_15_method_11_code 665 = .ok (.putfield 251, 3) := by decide +kernel
theorem d_15_11_668 : decode prog_15_method_11_code 668 = .ok (.aload_n 0, 1) := by decide +kernel
theorem d_15_11_669 : decode prog_15_method_11_code 669 = .ok (.bipush 8, 2) := by decide +kernel
theorem d_15_11_671 : decode prog_15_method_11_code 671 = .ok (.newarray .int, 2) := by decide +kernel
theorem d_15_11_673 : decode prog_15_method_11_code 673 = .ok (.putfield 254, 3) := by decide +kernel
theorem d_15_11_676 : decode prog_15_method_11_code 676 = .ok (.aload_n 0, 1) := by decide +kernel
theorem d_15_11_677 : decode prog_15_method_11_code 677 = .ok (.sipush 400, 3) := by decide +kernel
theorem d_15_11_680 : decode prog_15_method_11_code 680 = .ok (.newarray .int, 2) := by decide +kernel
theorem d_15_11_682 : decode prog_15_method_11_code 682 = .ok (.putfield 257, 3) := by decide +kernel
theorem d_15_11_685 : decode prog_15_method_11_code 685 = .ok (.aload_n 0, 1) := by decide +kernel
theorem d_15_11_686 : decode prog_15_method_11_code 686 = .ok (.sipush 400, 3) := by decide +kernel
theorem d_15_11_689 : decode prog_15_method_11_code 689 = .ok (.newarray .int, 2) := by decide +kernel
theorem d_15_11_691 : decode prog_15_method_11_code 691 = .ok (.putfield 260, 3) := by decide +kernel
theorem d_15_11_694 : decode prog_15_method_11_code 694 = .ok (.aload_n 0, 1) := by decide +kernel
theorem d_15_11_695 : decode prog_15_method_11_code 695 = .ok (.sipush 400, 3) := by decide +kernel
theorem d_15_11_698 : decode prog_15_method_11_code 698 = .ok (.newarray .int, 2) := by decide +kernel
theorem d_15_11_700 : decode prog_15_method_11_code 700 = .ok (.putfield 263, 3) := by decide +kernel
theorem d_15_11_703 : decode prog_15_method_11_code 703 = .ok (.aload_n 0, 1) := by decide +kernel
theorem d_15_11_704 : decode prog_15_method_11_code 704 = .ok (.sipush 400, 3) := by decide +kernel
theorem d_15_11_707 : decode prog_15_method_11_code 707 = .ok (.newarray .int, 2) := by decide +kernel
theorem d_15_11_709 : decode prog_15_method_11_code 709 = .ok (.putfield 266, 3) := by decide +kernel
theorem d_15_11_712 : decode prog_15_method_11_code 712 = .ok (.aload_n 0, 1) := by decide +kernel
theorem d_15_11_713 : decode prog_15_method_11_code 713 = .ok (.sipush 400, 3) := by decide +kernel
theorem d_15_11_716 : decode prog_15_method_11_code 716 = .ok (.newarray .long, 2) := by decide +kernel
theorem d_15_11_718 : decode prog_15_method_11_code 718 = .ok (.putfield 269, 3) := by decide +kernel
theorem d_15_11_721 : decode prog_15_method_11_code 721 = .ok (.aload_n 0, 1) := by decide +kernel
theorem d_15_11_722 : decode prog_15_method_11_code 722 = .ok (.sipush 400, 3) := by decide +kernel
theorem d_15_11_725 : decode prog_15_method_11_code 725 = .ok (.newarray .long, 2) := by decide +kernel
theorem d_15_11_727 : decode prog_15_method_11_code 727 = .ok (.putfield 272, 3) := by decide +kernel
theorem d_15_11_730 : decode prog_15_method_11_code 730 = .ok (.aload_n 0, 1) := by decide +kernel
theorem d_15_11_731 : decode prog_15_method_11_code 731 = .ok (.bipush 8, 2) := by decide +kernel
theorem d_15_11_733 : decode prog_15_method_11_code 733 = .ok (.newarray .int, 2) := by decide +kernel
theorem d_15_11_735 : decode prog_15_method_11_code 735 = .ok (.putfield 275, 3) := by decide +kernel
theorem d_15_11_738 : decode prog_15_method_11_code 738 = .ok (.aload_n 0, 1) := by decide +kernel
theorem d_15_11_739 : decode prog_15_method_11_code 739 = .ok (.bipush 6, 2) := by decide +kernel
theorem d_15_11_741 : decode prog_15_method_11_code 741 = .ok (.newarray .int, 2) := by decide +kernel
theorem d_15_11_743 : decode prog_15_method_11_code 743 = .ok (.putfield 278, 3) := by decide +kernel
theorem d_15_11_746 : decode prog_15_method_11_code 746 = .ok (.aload_n 0, 1) := by decide +kernel
theorem d_15_11_747 : decode prog_15_method_11_code 747 = .ok (.bipush 89, 2) := by decide +kernel
theorem d_15_11_749 : decode prog_15_method_11_code 749 = .ok (.newarray .int, 2) := by decide +kernel
theorem d_15_11_751 : decode prog_15_method_11_code 751 = .ok (.dup, 1) := by decide +kernel
theorem d_15_11_752 : decode prog_15_method_11_code 752 = .ok (.iconst 0, 1) := by decide +kernel
theorem d_15_11_753 : decode prog_15_method_11_code 753 = .ok (.bipush 7, 2) := by decide +kernel
theorem d_15_11_755 : decode prog_15_method_11_code 755 = .ok (.iastore, 1) := by decide +kernel
theorem d_15_11_756 : decode prog_15_method_11_code 756 = .ok (.dup, 1) := by decide +kernel
theorem d_15_11_757 : decode prog_15_method_11_code 757 = .ok (.iconst 1, 1) := by decide +kernel
theorem d_15_11_758 : decode prog_15_method_11_code 758 = .ok (.bipush 8, 2) := by decide +kernel
theorem d_15_11_760 : decode prog_15_method_11_code 760 = .ok (.iastore, 1) := by decide +kernel
theorem d_15_11_761 : decode prog_15_method_11_code 761 = .ok (.dup, 1) := by decide +kernel
theorem d_15_11_762 : decode prog_15_method_11_code 762 = .ok (.iconst 2, 1) := by decide +kernel
theorem d_15_11_763 : decode prog_15_method_11_code 763 = .ok (.bipush 9, 2) := by decide +kernel
theorem d_15_11_765 : decode prog_15_method_11_code 765 = .ok (.iastore, 1) := by decide +kernel
theorem d_15_11_766 : decode prog_15_method_11_code 766 = .ok (.dup, 1) := by decide +kernel
theorem d_15_11_767 : decode prog_15_method_11_code 767 = .ok (.iconst 3, 1) := by decide +kernel
theorem d_15_11_768 : decode prog_15_method_11_code 768 = .ok (.bipush 10, 2) := by decide +kernel
theorem d_15_11_770 : decode prog_15_method_11_code 770 = .ok (.iastore, 1) := by decide +kernel
theorem d_15_11_771 : decode prog_15_method_11_code 771 = .ok (.dup, 1) := by decide +kernel
theorem d_15_11_772 : decode prog_15_method_11_code 772 = .ok (.iconst 4, 1) := by decide +kernel
theorem d_15_11_773 : decode prog_15_method_11_code 773 = .ok (.bipush 11, 2) := by decide +kernel
theorem d_15_11_775 : decode prog_15_method_11_code 775 = .ok (.iastore, 1) := by decide +kernel
theorem d_15_11_776 : decode prog_15_method_11_code 776 = .ok (.dup, 1) := by decide +kernel
theorem d_15_11_777 : decode prog_15_method_11_code 777 = .ok (.iconst 5, 1) := by decide +kernel
theorem d_15_11_778 : decode prog_15_method_11_code 778 = .ok (.bipush 12, 2) := by decide +kernel
theorem d_15_11_780 : decode prog_15_method_11_code 780 = .ok (.iastore, 1) := by decide +kernel
theorem d_15_11_781 : decode prog_15_method_11_code 781 = .ok (.dup, 1) := by decide +kernel
theorem d_15_11_782 : decode prog_15_method_11_code 782 = .ok (.bipush 6, 2) := by decide +kernel
theorem d_15_11_784 : decode prog_15_method_11_code 784 = .ok (.bipush 13, 2) := by decide +kernel
theorem d_15_11_786 : decode prog_15_method_11_code 786 = .ok (.iastore, 1) := by decide +kernel
theorem d_15_11_787 : decode prog_15_method_11_code 787 = .ok (.dup, 1) := by decide +kernel
theorem d_15_11_788 : decode prog_15_method_11_code 788 = .ok (.bipush 7, 2) := by decide +kernel
theorem d_15_11_790 : decode prog_15_method_11_code 790 = .ok (.bipush 14, 2) := by decide +kernel
theorem d_15_11_792 : decode prog_15_method_11_code 792 = .ok (.iastore, 1) := by decide +kernel
theorem d_15_11_793 : decode prog_15_method_11_code 793 = .ok (.dup, 1) := by decide +kernel
theorem d_15_11_794 : decode prog_15_method_11_code 794 = .ok (.bipush 8, 2) := by decide +kernel
theorem d_15_11_796 : decode prog_15_method_11_code 796 = .ok (.bipush 16, 2) := by decide +kernel
theorem d_15_11_798 : decode prog_15_method_11_code 798 = .ok (.iastore, 1) := by decide +kernel
theorem d_15_11_799 : decode prog_15_method_11_code 799 = .ok (.dup, 1) := by decide +kernel
theorem d_15_11_800 : decode prog_15_method_11_code 800 = .ok (.bipush 9, 2) := by decide +kernel
theorem d_15_11_802 : decode prog_15_method_11_code 802 = .ok (.bipush 17, 2) := by decide +kernel
theorem d_15_11_804 : decode prog_15_method_11_code 804 = .ok (.iastore, 1) := by decide +kernel
theorem d_15_11_805 : decode prog_15_method_11_code 805 = .ok (.dup, 1) := by decide +kernel
theorem d_15_11_806 : decode prog_15_method_11_code 806 = .ok (.bipush 10, 2) := by decide +kernel
theorem d_15_11_808 : decode prog_15_method_11_code 808 = .ok (.bipush 19, 2) := by decide +kernel
theorem d_15_11_810 : decode prog_15_method_11_code 810 = .ok (.iastore, 1) := by decide +kernel
theorem d_15_11_811 : decode prog_15_method_11_code 811 = .ok (.dup, 1) := by decide +kernel
theorem d_15_11_812 : decode prog_15_method_11_code 812 = .ok (.bipush 11, 2) := by decide +kernel
theorem d_15_11_814 : decode prog_15_method_11_code 814 = .ok (.bipush 21, 2) := by decide +kernel
theorem d_15_11_816 : decode prog_15_method_11_code 816 = .ok (.iastore, 1) := by decide +kernel
theorem d_15_11_817 : decode prog_15_method_11_code 817 = .ok (.dup, 1) := by decide +kernel
theorem d_15_11_818 : decode prog_15_method_11_code 818 = .ok (.bipush 12, 2) := by decide +kernel
theorem d_15_11_820 : decode prog_15_method_11_code 820 = .ok (.bipush 23, 2) := by decide +kernel
theorem d_15_11_822 : decode prog_15_method_11_code 822 = .ok (.iastore, 1) := by decide +kernel
theorem d_15_11_823 : decode prog_15_method_11_code 823 = .ok (.dup, 1) := by decide +kernel
theorem d_15_11_824 : decode prog_15_method_11_code 824 = .ok (.bipush 13, 2) := by decide +kernel
theorem d_15_11_826 : decode prog_15_method_11_code 826 = .ok (.bipush 25, 2) := by decide +kernel
theorem d_15_11_828 : decode prog_15_method_11_code 828 = .ok (.iastore, 1) := by decide +kernel
theorem d_15_11_829 : decode prog_15_method_11_code 829 = .ok (.dup, 1) := by decide +kernel
theorem d_15_11_830 : decode prog_15_method_11_code 830 = .ok (.bipush 14, 2) := by decide +kernel
theorem d_15_11_832 : decode prog_15_method_11_code 832 = .ok (.bipush 28, 2) := by decide +kernel
theorem d_15_11_834 : decode prog_15_method_11_code 834 = .ok (.iastore, 1) := by decide +kernel
theorem d_15_11_835 : decode prog_15_method_11_code 835 = .ok (.dup, 1) := by decide +kernel
theorem d_15_11_836 : decode prog_15_method_11_code 836 = .ok (.bipush 15, 2) := by decide +kernel
theorem d_15_11_838 : decode prog_15_method_11_code 838 = .ok (.bipush 31, 2) := by decide +kernel
theorem d_15_11_840 : decode prog_15_method_11_code 840 = .ok (.iastore, 1) := by decide +kernel
theorem d_15_11_841 : decode prog_15_method_11_code 841 = .ok (.dup, 1) := by decide +kernel
theorem d_15_11_842 : decode prog_15_method_11_code 842 = .ok (.bipush 16, 2) := by decide +kernel
theorem d_15_11_844 : decode prog_15_method_11_code 844 = .ok (.bipush 34, 2) := by decide +kernel
theorem d_15_11_846 : decode prog_15_method_11_code 846 = .ok (.iastore, 1) := by decide +kernel
theorem d_15_11_847 : decode prog_15_method_11_code 847 = .ok (.dup, 1) := by decide +kernel
theorem d_15_11_848 : decode prog_15_method_11_code 848 = .ok (.bipush 17, 2) := by decide +kernel
theorem d_15_11_850 : decode prog_15_method_11_code 850 = .ok (.bipush 37, 2) := by decide +kernel
theorem d_15_11_852 : decode prog_15_method_11_code 852 = .ok (.iastore, 1) := by decide +kernel
theorem d_15_11_853 : decode prog_15_method_11_code 853 = .ok (.dup, 1) := by decide +kernel
theorem d_15_11_854 : decode prog_15_method_11_code 854 = .ok (.bipush 18, 2) := by decide +kernel
theorem d_15_11_856 : decode prog_15_method_11_code 856 = .ok (.bipush 41, 2) := by decide +kernel
theorem d_15_11_858 : decode prog_15_method_11_code 858 = .ok (.iastore, 1) := by decide +kernel
theorem d_15_11_859 : decode prog_15_method_11_code 859 = .ok (.dup, 1) := by decide +kernel
theorem d_15_11_860 : decode prog_15_method_11_code 860 = .ok (.bipush 19, 2) := by decide +kernel
theorem d_15_11_862 : decode prog_15_method_11_code 862 = .ok (.bipush 45, 2) := by decide +kernel
theorem d_15_11_864 : decode prog_15_method_11_code 864 = .ok (.iastore, 1) := by decide +kernel
theorem d_15_11_865 : decode prog_15_method_11_code 865 = .ok (.dup, 1) := by decide +kernel
theorem d_15_11_866 : decode prog_15_method_11_code 866 = .ok (.bipush 20, 2) := by decide +kernel
theorem d_15_11_868 : decode prog_15_method_11_code 868 = .ok (.bipush 50, 2) := by decide +kernel
theorem d_15_11_870 : decode prog_15_method_11_code 870 = .ok (.iastore, 1) := by decide +kernel
theorem d_15_11_871 : decode prog_15_method_11_code 871 = .ok (.dup, 1) := by decide +kernel
theorem d_15_11_872 : decode prog_15_method_11_code 872 = .ok (.bipush 21, 2) := by decide +kernel
theorem d_15_11_874 : decode prog_15_method_11_code 874 = .ok (.bipush 55, 2) := by decide +kernel
theorem d_15_11_876 : decode prog_15_method_11_code 876 = .ok (.iastore, 1) := by decide +kernel
theorem d_15_11_877 : decode prog_15_method_11_code 877 = .ok (.dup, 1) := by decide +kernel
theorem d_15_11_878 : decode prog_15_method_11_code 878 = .ok (.bipush 22, 2) := by decide +kernel
theorem d_15_11_880 : decode prog_15_method_11_code 880 = .ok (.bipush 60, 2) := by decide +kernel
theorem d_15_11_882 : decode prog_15_method_11_code 882 = .ok (.iastore, 1) := by decide +kernel
theorem d_15_11_883 : decode prog_15_method_11_code 883 = .ok (.dup, 1) := by decide +kernel
theorem d_15_11_884 : decode prog_15_method_11_code 884 = .ok (.bipush 23, 2) := by decide +kernel
theorem d_15_11_886 : decode prog_15_method_11_code 886 = .ok (.bipush 66, 2) := by decide +kernel
theorem d_15_11_888 : decode prog_15_method_11_code 888 = .ok (.iastore, 1) := by decide +kernel
theorem d_15_11_889 : decode prog_15_method_11_code 889 = .ok (.dup, 1) := by decide +kernel
theorem d_15_11_890 : decode prog_15_method_11_code 890 = .ok (.bipush 24, 2) := by decide +kernel
theorem d_15_11_892 : decode prog_15_method_11_code 892 = .ok (.bipush 73, 2) := by decide +kernel
theorem d_15_11_894 : decode prog_15_method_11_code 894 = .ok (.iastore, 1) := by decide +kernel
theorem d_15_11_895 : decode prog_15_method_11_code 895 = .ok (.dup, 1) := by decide +kernel
theorem d_15_11_896 : decode prog_15_method_11_code 896 = .ok (.bipush 25, 2) := by decide +kernel
theorem d_15_11_898 : decode prog_15_method_11_code 898 = .ok (.bipush 80, 2) := by decide +kernel
theorem d_15_11_900 : decode prog_15_method_11_code 900 = .ok (.iastore, 1) := by decide +kernel
theorem d_15_11_901 : decode prog_15_method_11_code 901 = .ok (.dup, 1) := by decide +kernel
theorem d_15_11_902 : decode prog_15_method_11_code 902 = .ok (.bipush 26, 2) := by decide +kernel
theorem d_15_11_904 : decode prog_15_method_11_code 904 = .ok (.bipush 88, 2) := by decide +kernel
theorem d_15_11_906 : decode prog_15_method_11_code 906 = .ok (.iastore, 1) := by decide +kernel
theorem d_15_11_907 : decode prog_15_method_11_code 907 = .ok (.dup, 1) := by decide +kernel
theorem d_15_11_908 : decode prog_15_method_11_code 908 = .ok (.bipush 27, 2) := by decide +kernel
theorem d_15_11_910 : decode prog_15_method_11_code 910 = .ok (.bipush 97, 2) := by decide +kernel
theorem d_15_11_912 : decode prog_15_method_11_code 912 = .ok (.iastore, 1) := by decide +kernel
theorem d_15_11_913 : decode prog_15_method_11_code 913 = .ok (.dup, 1) := by decide +kernel
theorem d_15_11_914 : decode prog_15_method_11_code 914 = .ok (.bipush 28, 2) := by decide +kernel
theorem d_15_11_916 : decode prog_15_method_11_code 916 = .ok (.bipush 107, 2) := by decide +kernel
theorem d_15_11_918 : decode prog_15_method_11_code 918 = .ok (.iastore, 1) := by decide +kernel
theorem d_15_11_919 : decode prog_15_method_11_code 919 = .ok (.dup, 1) := by decide +kernel
theorem d_15_11_920 : decode prog_15_method_11_code 920 = .ok (.bipush 29, 2) := by decide +kernel
theorem d_15_11_922 : decode prog_15_method_11_code 922 = .ok (.bipush 118, 2) := by decide +kernel
theorem d_15_11_924 : decode prog_15_method_11_code 924 = .ok (.iastore, 1) := by decide +kernel
theorem d_15_11_925 : decode prog_15_method_11_code 925 = .ok (.dup, 1) := by decide +kernel
theorem d_15_11_926 : decode prog_15_method_11_code 926 = .ok (.bipush 30, 2) := by decide +kernel
theorem d_15_11_928 : decode prog_15_method_11_code 928 = .ok (.sipush 130, 3) := by decide +kernel
theorem d_15_11_931 : decode prog_15_method_11_code 931 = .ok (.iastore, 1) := by decide +kernel
theorem d_15_11_932 : decode prog_15_method_11_code 932 = .ok (.dup, 1) := by decide +kernel
theorem d_15_11_933 : decode prog_15_method_11_code 933 = .ok (.bipush 31, 2) := by decide +kernel
theorem d_15_11_935 : decode prog_15_method_11_code 935 = .ok (.sipush 143, 3) := by decide +kernel
theorem d_15_11_938 : decode prog_15_method_11_code 938 = .ok (.iastore, 1) := by decide +kernel
theorem d_15_11_939 : decode prog_15_method_11_code 939 = .ok (.dup, 1) := by decide +kernel
theorem d_15_11_940 : decode prog_15_method_11_code 940 = .ok (.bipush 32, 2) := by decide +kernel
theorem d_15_11_942 : decode prog_15_method_11_code 942 = .ok (.sipush 157, 3) := by decide +kernel
theorem d_15_11_945 : decode prog_15_method_11_code 945 = .ok (.iastore, 1) := by decide +kernel
theorem d_15_11_946 : decode prog_15_method_11_code 946 = .ok (.dup, 1) := by decide +kernel
theorem d_15_11_947 : decode prog_15_method_11_code 947 = .ok (.bipush 33, 2) := by decide +kernel
theorem d_15_11_949 : decode prog_15_method_11_code 949 = .ok (.sipush 173, 3) := by decide +kernel
theorem d_15_11_952 : decode prog_15_method_11_code 952 = .ok (.iastore, 1) := by decide +kernel
theorem d_15_11_953 : decode prog_15_method_11_code 953 = .ok (.dup, 1) := by decide +kernel
theorem d_15_11_954 : decode prog_15_method_11_code 954 = .ok (.bipush 34, 2) := by decide +kernel
theorem d_15_11_956 : decode prog_15_method_11_code 956 = .ok (.sipush 190, 3) := by decide +kernel
theorem d_15_11_959 : decode prog_15_method_11_code 959 = .ok (.iastore, 1) := by decide +kernel
theorem d_15_11_960 : decode prog_15_method_11_code 960 = .ok (.dup, 1) := by decide +kernel
theorem d_15_11_961 : decode prog_15_method_11_code 961 = .ok (.bipush 35, 2) := by decide +kernel
theorem d_15_11_963 : decode prog_15_method_11_code 963 = .ok (.sipush 209, 3) := by decide +kernel
theorem d_15_11_966 : decode prog_15_method_11_code 966 = .ok (.iastore, 1) := by decide +kernel
theorem d_15_11_967 : decode prog_15_method_11_code 967 = .ok (.dup, 1) := by decide +kernel
theorem d_15_11_968 : decode prog_15_method_11_code 968 = .ok (.bipush 36, 2) := by decide +kernel
theorem d_15_11_970 : decode prog_15_method_11_code 970 = .ok (.sipush 230, 3) := by decide +kernel
theorem d_15_11_973 : decode prog_15_method_11_code 973 = .ok (.iastore, 1) := by decide +kernel
theorem d_15_11_974 : decode prog_15_method_11_code 974 = .ok (.dup, 1) := by decide +kernel
theorem d_15_11_975 : decode prog_15_method_11_code 975 = .ok (.bipush 37, 2) := by decide +kernel
theorem d_15_11_977 : decode prog_15_method_11_code 977 = .ok (.sipush 253, 3) := by decide +kernel
theorem d_15_11_980 : decode prog_15_method_11_code 980 = .ok (.iastore, 1) := by decide +kernel
theorem d_15_11_981 : decode prog_15_method_11_code 981 = .ok (.dup, 1) := by decide +kernel
theorem d_15_11_982 : decode prog_15_method_11_code 982 = .ok (.bipush 38, 2) := by decide +kernel
theorem d_15_11_984 : decode prog_15_method_11_code 984 = .ok (.sipush 279, 3) := by decide +kernel
theorem d_15_11_987 : decode prog_15_method_11_code 987 = .ok (.iastore, 1) := by decide +kernel
theorem d_15_11_988 : decode prog_15_method_11_code 988 = .ok (.dup, 1) := by decide +kernel
theorem d_15_11_989 : decode prog_15_method_11_code 989 = .ok (.bipush 39, 2) := by decide +kernel
theorem d_15_11_991 : decode prog_15_method_11_code 991 = .ok (.sipush 307, 3) := by decide +kernel
theorem d_15_11_994 : decode prog_15_method_11_code 994 = .ok (.iastore, 1) := by decide +kernel
theorem d_15_11_995 : decode prog_15_method_11_code 995 = .ok (.dup, 1) := by decide +kernel
theorem d_15_11_996 : decode prog_15_method_11_code 996 = .ok (.bipush 40, 2) := by decide +kernel
theorem d_15_11_998 : decode prog_15_method_11_code 998 = .ok (.sipush 337, 3) := by decide +kernel
theorem d_15_11_1001 : decode prog_15_method_11_code 1001 = .ok (.iastore, 1) := by decide +kernel
theorem d_15_11_1002 : decode prog_15_method_11_code 1002 = .ok (.dup, 1) := by decide +kernel
theorem d_15_11_1003 : decode prog_15_method_11_code 1003 = .ok (.bipush 41, 2) := by decide +kernel
theorem d_15_11_1005 : decode prog_15_method_11_code 1005 = .ok (.sipush 371, 3) := by decide +kernel
theorem d_15_11_1008 : decode prog_15_method_11_code 1008 = .ok (.iastore, 1) := by decide +kernel
theorem d_15_11_1009 : decode prog_15_method_11_code 1009 = .ok (.dup, 1) := by decide +kernel
theorem d_15_11_1010 : decode prog_15_method_11_code 1010 = .ok (.bipush 42, 2) := by decide +kernel
theorem d_15_11_1012 : decode prog_15_method_11_code 1012 = .ok (.sipush 408, 3) := by decide +kernel
theorem d_15_11_1015 : decode prog_15_method_11_code 1015 = .ok (.iastore, 1) := by decide +kernel
theorem d_15_11_1016 : decode prog_15_method_11_code 1016 = .ok (.dup, 1) := by decide +kernel
theorem d_15_11_1017 : decode prog_15_method_11_code 1017 = .ok (.bipush 43, 2) := by decide +kernel
theorem d_15_11_1019 : decode prog_15_method_11_code 1019 = .ok (.sipush 449, 3) := by decide +kernel
theorem d_15_11_1022 : decode prog_15_method_11_code 1022 = .ok (.iastore, 1) := by decide +kernel
theorem d_15_11_1023 : decode prog_15_method_11_code 1023 = .ok (.dup, 1) := by decide +kernel
theorem d_15_11_1024 : decode prog_15_method_11_code 1024 = .ok (.bipush 44, 2) := by decide +kernel
theorem d_15_11_1026 : decode prog_15_method_11_code 1026 = .ok (.sipush 494, 3) := by decide +kernel
theorem d_15_11_1029 : decode prog_15_method_11_code 1029 = .ok (.iastore, 1) := by decide +kernel
theorem d_15_11_1030 : decode prog_15_method_11_code 1030 = .ok (.dup, 1) := by decide +kernel
theorem d_15_11_1031 : decode prog_15_method_11_code 1031 = .ok (.bipush 45, 2) := by decide +kernel
theorem d_15_11_1033 : decode prog_15_method_11_code 1033 = .ok (.sipush 544, 3) := by decide +kernel
theorem d_15_11_1036 : decode prog_15_method_11_code 1036 = .ok (.iastore, 1) := by decide +kernel
theorem d_15_11_1037 : decode prog_15_method_11_code 1037 = .ok (.dup, 1) := by decide +kernel
theorem d_15_11_1038 : decode prog_15_method_11_code 1038 = .ok (.bipush 46, 2) := by decide +kernel
theorem d_15_11_1040 : decode prog_15_method_11_code 1040 = .ok (.sipush 598, 3) := by decide +kernel
theorem d_15_11_1043 : decode prog_15_method_11_code 1043 = .ok (.iastore, 1) := by decide +kernel
theorem d_15_11_1044 : decode prog_15_method_11_code 1044 = .ok (.dup, 1) := by decide +kernel
theorem d_15_11_1045 : decode prog_15_method_11_code 1045 = .ok (.bipush 47, 2) := by decide +kernel
theorem d_15_11_1047 : decode prog_15_method_11_code 1047 = .ok (.sipush 658, 3) := by decide +kernel
theorem d_15_11_1050 : decode prog_15_method_11_code 1050 = .ok (.iastore, 1) := by decide +kernel
theorem d_15_11_1051 : decode prog_15_method_11_code 1051 = .ok (.dup, 1) := by decide +kernel
theorem d_15_11_1052 : decode prog_15_method_11_code 1052 = .ok (.bipush 48, 2) := by decide +kernel
theorem d_15_11_1054 : decode prog_15_method_11_code 1054 = .ok (.sipush 724, 3) := by decide +kernel
theorem d_15_11_1057 : decode prog_15_method_11_code 1057 = .ok (.iastore, 1) := by decide +kernel
theorem d_15_11_1058 : decode prog_15_method_11_code 1058 = .ok (.dup, 1) := by decide +kernel
theorem d_15_11_1059 : decode prog_15_method_11_code 1059 = .ok (.bipush 49, 2) := by decide +kernel
theorem d_15_11_1061 : decode prog_15_method_11_code 1061 = .ok (.sipush 796, 3) := by decide +kernel
theorem d_15_11_1064 : decode prog_15_method_11_code 1064 = .ok (.iastore, 1) := by decide +kernel
theorem d_15_11_1065 : decode prog_15_method_11_code 1065 = .ok (.dup, 1) := by decide +kernel
theorem d_15_11_1066 : decode prog_15_method_11_code 1066 = .ok (.bipush 50, 2) := by decide +kernel
theorem d_15_11_1068 : decode prog_15_method_11_code 1068 = .ok (.sipush 876, 3) := by decide +kernel
theorem d_15_11_1071 : decode prog_15_method_11_code 1071 = .ok (.iastore, 1) := by decide +kernel
theorem d_15_11_1072 : decode prog_15_method_11_code 1072 = .ok (.dup, 1) := by decide +kernel
theorem d_15_11_1073 : decode prog_15_method_11_code 1073 = .ok (.bipush 51, 2) := by decide +kernel
theorem d_15_11_1075 : decode prog_15_method_11_code 1075 = .ok (.sipush 963, 3) := by decide +kernel
theorem d_15_11_1078 : decode prog_15_method_11_code 1078 = .ok (.iastore, 1) := by decide +kernel
theorem d_15_11_1079 : decode prog_15_method_11_code 1079 = .ok (.dup, 1) := by decide +kernel
theorem d_15_11_1080 : decode prog_15_method_11_code 1080 = .ok (.bipush 52, 2) := by decide +kernel
theorem d_15_11_1082 : decode prog_15_method_11_code 1082 = .ok (.sipush 1060, 3) := by decide +kernel
theorem d_15_11_1085 : decode prog_15_method_11_code 1085 = .ok (.iastore, 1) := by decide +kernel
theorem d_15_11_1086 : decode prog_15_method_11_code 1086 = .ok (.dup, 1) := by decide +kernel
theorem d_15_11_1087 : decode prog_15_method_11_code 1087 = .ok (.bipush 53, 2) := by decide +kernel
theorem d_15_11_1089 : decode prog_15_method_11_code 1089 = .ok (.sipush 1166, 3) := by decide +kernel
theorem d_15_11_1092 : decode prog_15_method_11_code 1092 = .ok (.iastore, 1) := by decide +kernel
theorem d_15_11_1093 : decode prog_15_method_11_code 1093 = .ok (.dup, 1) := by decide +kernel
theorem d_15_11_1094 : decode prog_15_method_11_code 1094 = .ok (.bipush 54, 2) := by decide +kernel
theorem d_15_11_1096 : decode prog_15_method_11_code 1096 = .ok (.sipush 1282, 3) := by decide +kernel
theorem d_15_11_1099 : decode prog_15_method_11_code 1099 = .ok (.iastore, 1) := by decide +kernel
theorem d_15_11_1100 : decode prog_15_method_11_code 1100 = .ok (.dup, 1) := by decide +kernel
theorem d_15_11_1101 : decode prog_15_method_11_code 1101 = .ok (.bipush 55, 2) := by decide +kernel
theorem d_15_11_1103 : decode prog_15_method_11_code 1103 = .ok (.sipush 1411, 3) := by decide +kernel
theorem d_15_11_1106 : decode prog_15_method_11_code 1106 = .ok (.iastore, 1) := by decide +kernel
theorem d_15_11_1107 : decode prog_15_method_11_code 1107 = .ok (.dup, 1) := by decide +kernel
theorem d_15_11_1108 : decode prog_15_method_11_code 1108 = .ok (.bipush 56, 2) := by decide +kernel
theorem d_15_11_1110 : decode prog_15_method_11_code 1110 = .ok (.sipush 1552, 3) := by decide +kernel
theorem d_15_11_1113 : decode prog_15_method_11_code 1113 = .ok (.iastore, 1) := by decide +kernel
theorem d_15_11_1114 : decode prog_15_method_11_code 1114 = .ok (.dup, 1) := by decide +kernel
theorem d_15_11_1115 : decode prog_15_method_11_code 1115 = .ok (.bipush 57, 2) := by decide +kernel
theorem d_15_11_1117 : decode prog_15_method_11_code 1117 = .ok (.sipush 1707, 3) := by decide +kernel
theorem d_15_11_1120 : decode prog_15_method_11_code 1120 = .ok (.iastore, 1) := by decide +kernel
theorem d_15_11_1121 : decode prog_15_method_11_code 1121 = .ok (.dup, 1) := by decide +kernel
theorem d_15_11_1122 : decode prog_15_method_11_code 1122 = .ok (.bipush 58, 2) := by decide +kernel
theorem d_15_11_1124 : decode prog_15_method_11_code 1124 = .ok (.sipush 1878, 3) := by decide +kernel
theorem d_15_11_1127 : decode prog_15_method_11_code 1127 = .ok (.iastore, 1) := by decide +kernel
theorem d_15_11_1128 : decode prog_15_method_11_code 1128 = .ok (.dup, 1) := by decide +kernel
theorem d_15_11_1129 : decode prog_15_method_11_code 1129 = .ok (.bipush 59, 2) := by decide +kernel
theorem d_15_11_1131 : decode prog_15_method_11_code 1131 = .ok (.sipush 2066, 3) := by decide +kernel
theorem d_15_11_1134 : decode prog_15_method_11_code 1134 = .ok (.iastore, 1) := by decide +kernel
theorem d_15_11_1135 : decode prog_15_method_11_code 1135 = .ok (.dup, 1) := by decide +kernel
theorem d_15_11_1136 : decode prog_15_method_11_code 1136 = .ok (.bipush 60, 2) := by decide +kernel
theorem d_15_11_1138 : decode prog_15_method_11_code 1138 = .ok (.sipush 2272, 3) := by decide +kernel
theorem d_15_11_1141 : decode prog_15_method_11_code 1141 = .ok (.iastore, 1) := by decide +kernel
theorem d_15_11_1142 : decode prog_15_method_11_code 1142 = .ok (.dup, 1) := by decide +kernel
theorem d_15_11_1143 : decode prog_15_method_11_code 1143 = .ok (.bipush 61, 2) := by decide +kernel
theorem d_15_11_1145 : decode prog_15_method_11_code 1145 = .ok (.sipush 2499, 3) := by decide +kernel
theorem d_15_11_1148 : decode prog_15_method_11_code 1148 = .ok (.iastore, 1) := by decide +kernel
theorem d_15_11_1149 : decode prog_15_method_11_code 1149 = .ok (.dup, 1) := by decide +kernel
theorem d_15_11_1150 : decode prog_15_method_11_code 1150 = .ok (.bipush 62, 2) := by decide +kernel
theorem d_15_11_1152 : decode prog_15_method_11_code 1152 = .ok (.sipush 2749, 3) := by decide +kernel
theorem d_15_11_1155 : decode prog_15_method_11_code 1155 = .ok (.iastore, 1) := by decide +kernel
theorem d_15_11_1156 : decode prog_15_method_11_code 1156 = .ok (.dup, 1) := by decide +kernel
theorem d_15_11_1157 : decode prog_15_method_11_code 1157 = .ok (.bipush 63, 2) := by decide +kernel
theorem d_15_11_1159 : decode prog_15_method_11_code 1159 = .ok (.sipush 3024, 3) := by decide +kernel
theorem d_15_11_1162 : decode prog_15_method_11_code 1162 = .ok (.iastore, 1) := by decide +kernel
theorem d_15_11_1163 : decode prog_15_method_11_code 1163 = .ok (.dup, 1) := by decide +kernel
theorem d_15_11_1164 : decode prog_15_method_11_code 1164 = .ok (.bipush 64, 2) := by decide +kernel
theorem d_15_11_1166 : decode prog_15_method_11_code 1166 = .ok (.sipush 3327, 3) := by decide +kernel
theorem d_15_11_1169 : decode prog_15_method_11_code 1169 = .ok (.iastore, 1) := by decide +kernel
theorem d_15_11_1170 : decode prog_15_method_11_code 1170 = .ok (.dup, 1) := by decide +kernel
theorem d_15_11_1171 : decode prog_15_method_11_code 1171 = .ok (.bipush 65, 2) := by decide +kernel
theorem d_15_11_1173 : decode prog_15_method_11_code 1173 = .ok (.sipush 3660, 3) := by decide +kernel
theorem d_15_11_1176 : decode prog_15_method_11_code 1176 = .ok (.iastore, 1) := by decide +kernel
theorem d_15_11_1177 : decode prog_15_method_11_code 1177 = .ok (.dup, 1) := by decide +kernel
theorem d_15_11_1178 : decode prog_15_method_11_code 1178 = .ok (.bipush 66, 2) := by decide +kernel
theorem d_15_11_1180 : decode prog_15_method_11_code 1180 = .ok (.sipush 4026, 3) := by decide +kernel
theorem d_15_11_1183 : decode prog_15_method_11_code 1183 = .ok (.iastore, 1) := by decide +kernel
theorem d_15_11_1184 : decode prog_15_method_11_code 1184 = .ok (.dup, 1) := by decide +kernel
theorem d_15_11_1185 : decode prog_15_method_11_code 1185 = .ok (.bipush 67, 2) := by decide +kernel
theorem d_15_11_1187 : decode prog_15_method_11_code 1187 = .ok (.sipush 4428, 3) := by decide +kernel
theorem d_15_11_1190 : decode prog_15_method_11_code 1190 = .ok (.iastore, 1) := by decide +kernel
theorem d_15_11_1191 : decode prog_15_method_11_code 1191 = .ok (.dup, 1) := by decide +kernel
theorem d_15_11_1192 : decode prog_15_method_11_code 1192 = .ok (.bipush 68, 2) := by decide +kernel
theorem d_15_11_1194 : decode prog_15_method_11_code 1194 = .ok (.sipush 4871, 3) := by decide +kernel
theorem d_15_11_1197 : decode prog_15_method_11_code 1197 = .ok (.iastore, 1) := by decide +kernel
theorem d_15_11_1198 : decode prog_15_method_11_code 1198 = .ok (.dup, 1) := by decide +kernel
theorem d_15_11_1199 : decode prog_15_method_11_code 1199 = .ok (.bipush 69, 2) := by decide +kernel
theorem d_15_11_1201 : decode prog_15_method_11_code 1201 = .ok (.sipush 5358, 3) := by decide +kernel
theorem d_15_11_1204 : decode prog_15_method_11_code 1204 = .ok (.iastore, 1) := by decide +kernel
theorem d_15_11_1205 : decode prog_15_method_11_code 1205 = .ok (.dup, 1) := by decide +kernel
theorem d_15_11_1206 : decode prog_15_method_11_code 1206 = .ok (.bipush 70, 2) := by decide +kernel
theorem d_15_11_1208 : decode prog_15_method_11_code 1208 = .ok (.sipush 5894, 3) := by decide +kernel
theorem d_15_11_1211 : decode prog_15_method_11_code 1211 = .ok (.iastore, 1) := by decide +kernel
theorem d_15_11_1212 : decode prog_15_method_11_code 1212 = .ok (.dup, 1) := by decide +kernel
theorem d_15_11_1213 : decode prog_15_method_11_code 1213 = .ok (.bipush 71, 2) := by decide +kernel
theorem d_15_11_1215 : decode prog_15_method_11_code 1215 = .ok (.sipush 6484, 3) := by decide +kernel
theorem d_15_11_1218 : decode prog_15_method_11_code 1218 = .ok (.iastore, 1) := by decide +kernel
theorem d_15_11_1219 : decode prog_15_method_11_code 1219 = .ok (.dup, 1) := by decide +kernel
theorem d_15_11_1220 : decode prog_15_method_11_code 1220 = .ok (.bipush 72, 2) := by decide +kernel
theorem d_15_11_1222 : decode prog_15_method_11_code 1222 = .ok (.sipush 7132, 3) := by decide +kernel
theorem d_15_11_1225 : decode prog_15_method_11_code 1225 = .ok (.iastore, 1) := by decide +kernel
theorem d_15_11_1226 : decode prog_15_method_11_code 1226 = .ok (.dup, 1) := by decide +kernel
theorem d_15_11_1227 : decode prog_15_method_11_code 1227 = .ok (.bipush 73, 2) := by decide +kernel
theorem d_15_11_1229 : decode prog_15_method_11_code 1229 = .ok (.sipush 7845, 3) := by decide +kernel
theorem d_15_11_1232 : decode prog_15_method_11_code 1232 = .ok (.iastore, 1) := by decide +kernel
theorem d_15_11_1233 : decode prog_15_method_11_code 1233 = .ok (.dup, 1) := by decide +kernel
theorem d_15_11_1234 : decode prog_15_method_11_code 1234 = .ok (.bipush 74, 2) := by decide +kernel
theorem d_15_11_1236 : decode prog_15_method_11_code 1236 = .ok (.sipush 8630, 3) := by decide +kernel
theorem d_15_11_1239 : decode prog_15_method_11_code 1239 = .ok (.iastore, 1) := by decide +kernel
theorem d_15_11_1240 : decode prog_15_method_11_code 1240 = .ok (.dup, 1) := by decide +kernel
theorem d_15_11_1241 : decode prog_15_method_11_code 1241 = .ok (.bipush 75, 2) := by decide +kernel
theorem d_15_11_1243 : decode prog_15_method_11_code 1243 = .ok (.sipush 9493, 3) := by decide +kernel
theorem d_15_11_1246 : decode prog_15_method_11_code 1246 = .ok (.iastore, 1) := by decide +kernel
theorem d_15_11_1247 : decode prog_15_method_11_code 1247 = .ok (.dup, 1) := by decide +kernel
theorem d_15_11_1248 : decode prog_15_method_11_code 1248 = .ok (.bipush 76, 2) := by decide +kernel
theorem d_15_11_1250 : decode prog_15_method_11_code 1250 = .ok (.sipush 10442, 3) := by decide +kernel
theorem d_15_11_1253 : decode prog_15_method_11_code 1253 = .ok (.iastore, 1) := by decide +kernel
theorem d_15_11_1254 : decode prog_15_method_11_code 1254 = .ok (.dup, 1) := by decide +kernel
theorem d_15_11_1255 : decode prog_15_method_11_code 1255 = .ok (.bipush 77, 2) := by decide +kernel
theorem d_15_11_1257 : decode prog_15_method_11_code 1257 = .ok (.sipush 11487, 3) := by decide +kernel
theorem d_15_11_1260 : decode prog_15_method_11_code 1260 = .ok (.iastore, 1) := by decide +kernel
theorem d_15_11_1261 : decode prog_15_method_11_code 1261 = .ok (.dup, 1) := by decide +kernel
theorem d_15_11_1262 : decode prog_15_method_11_code 1262 = .ok (.bipush 78, 2) := by decide +kernel
theorem d_15_11_1264 : decode prog_15_method_11_code 1264 = .ok (.sipush 12635, 3) := by decide +kernel
theorem d_15_11_1267 : decode prog_15_method_11_code 1267 = .ok (.iastore, 1) := by decide +kernel
theorem d_15_11_1268 : decode prog_15_method_11_code 1268 = .ok (.dup, 1) := by decide +kernel
theorem d_15_11_1269 : decode prog_15_method_11_code 1269 = .ok (.bipush 79, 2) := by decide +kernel
theorem d_15_11_1271 : decode prog_15_method_11_code 1271 = .ok (.sipush 13899, 3) := by decide +kernel
theorem d_15_11_1274 : decode prog_15_method_11_code 1274 = .ok (.iastore, 1) := by decide +kernel
theorem d_15_11_1275 : decode prog_15_method_11_code 1275 = .ok (.dup, 1) := by decide +kernel
theorem d_15_11_1276 : decode prog_15_method_11_code 1276 = .ok (.bipush 80, 2) := by decide +kernel
theorem d_15_11_1278 : decode prog_15_method_11_code 1278 = .ok (.sipush 15289, 3) := by decide +kernel
theorem d_15_11_1281 : decode prog_15_method_11_code 1281 = .ok (.iastore, 1) := by decide +kernel
theorem d_15_11_1282 : decode prog_15_method_11_code 1282 = .ok (.dup, 1) := by decide +kernel
theorem d_15_11_1283 : decode prog_15_method_11_code 1283 = .ok (.bipush 81, 2) := by decide +kernel
theorem d_15_11_1285 : decode prog_15_method_11_code 1285 = .ok (.sipush 16818, 3) := by decide +kernel
theorem d_15_11_1288 : decode prog_15_method_11_code 1288 = .ok (.iastore, 1) := by decide +kernel
theorem d_15_11_1289 : decode prog_15_method_11_code 1289 = .ok (.dup, 1) := by decide +kernel
theorem d_15_11_1290 : decode prog_15_method_11_code 1290 = .ok (.bipush 82, 2) := by decide +kernel
theorem d_15_11_1292 : decode prog_15_method_11_code 1292 = .ok (.sipush 18500, 3) := by decide +kernel
theorem d_15_11_1295 : decode prog_15_method_11_code 1295 = .ok (.iastore, 1) := by decide +kernel
theorem d_15_11_1296 : decode prog_15_method_11_code 1296 = .ok (.dup, 1) := by decide +kernel
theorem d_15_11_1297 : decode prog_15_method_11_code 1297 = .ok (.bipush 83, 2) := by decide +kernel
theorem d_15_11_1299 : decode prog_15_method_11_code 1299 = .ok (.sipush 20350, 3) := by decide +kernel
theorem d_15_11_1302 : decode prog_15_method_11_code 1302 = .ok (.iastore, 1) := by decide +kernel
theorem d_15_11_1303 : decode prog_15_method_11_code 1303 = .ok (.dup, 1) := by decide +kernel
theorem d_15_11_1304 : decode prog_15_method_11_code 1304 = .ok (.bipush 84, 2) := by decide +kernel
theorem d_15_11_1306 : decode prog_15_method_11_code 1306 = .ok (.sipush 22385, 3) := by decide +kernel
theorem d_15_11_1309 : decode prog_15_method_11_code 1309 = .ok (.iastore, 1) := by decide +kernel
theorem d_15_11_1310 : decode prog_15_method_11_code 1310 = .ok (.dup, 1) := by decide +kernel
theorem d_15_11_1311 : decode prog_15_method_11_code 1311 = .ok (.bipush 85, 2) := by decide +kernel
theorem d_15_11_1313 : decode prog_15_method_11_code 1313 = .ok (.sipush 24623, 3) := by decide +kernel
theorem d_15_11_1316 : decode prog_15_method_11_code 1316 = .ok (.iastore, 1) := by decide +kernel
theorem d_15_11_1317 : decode prog_15_method_11_code 1317 = .ok (.dup, 1) := by decide +kernel
theorem d_15_11_1318 : decode prog_15_method_11_code 1318 = .ok (.bipush 86, 2) := by decide +kernel
theorem d_15_11_1320 : decode prog_15_method_11_code 1320 = .ok (.sipush 27086, 3) := by decide +kernel
theorem d_15_11_1323 : decode prog_15_method_11_code 1323 = .ok (.iastore, 1) := by decide +kernel
theorem d_15_11_1324 : decode prog_15_method_11_code 1324 = .ok (.dup, 1) := by decide +kernel
theorem d_15_11_1325 : decode prog_15_method_11_code 1325 = .ok (.bipush 87, 2) := by decide +kernel
theorem d_15_11_1327 : decode prog_15_method_11_code 1327 = .ok (.sipush 29794, 3) := by decide +kernel
theorem d_15_11_1330 : decode prog_15_method_11_code 1330 = .ok (.iastore, 1) := by decide +kernel
theorem d_15_11_1331 : decode prog_15_method_11_code 1331 = .ok (.dup, 1) := by decide +kernel
theorem d_15_11_1332 : decode prog_15_method_11_code 1332 = .ok (.bipush 88, 2) := by decide +kernel
theorem d_15_11_1334 : decode prog_15_method_11_code 1334 = .ok (.sipush 32767, 3) := by decide +kernel
theorem d_15_11_1337 : decode prog_15_method_11_code 1337 = .ok (.iastore, 1) := by decide +kernel
theorem d_15_11_1338 : decode prog_15_method_11_code 1338 = .ok (.putfield 281, 3) := by decide +kernel
theorem d_15_11_1341 : decode prog_15_method_11_code 1341 = .ok (.aload_n 0, 1) := by decide +kernel
theorem d_15_11_1342 : decode prog_15_method_11_code 1342 = .ok (.bipush 8, 2) := by decide +kernel
theorem d_15_11_1344 : decode prog_15_method_11_code 1344 = .ok (.newarray .int, 2) := by decide +kernel
theorem d_15_11_1346 : decode prog_15_method_11_code 1346 = .ok (.dup, 1) := by decide +kernel
theorem d_15_11_1347 : decode prog_15_method_11_code 1347 = .ok (.iconst 0, 1) := by decide +kernel
theorem d_15_11_1348 : decode prog_15_method_11_code 1348 = .ok (.iconst (-1), 1) := by decide +kernel
theorem d_15_11_1349 : decode prog_15_method_11_code 1349 = .ok (.iastore, 1) := by decide +kernel
theorem d_15_11_1350 : decode prog_15_method_11_code 1350 = .ok (.dup, 1) := by decide +kernel
theorem d_15_11_1351 : decode prog_15_method_11_code 1351 = .ok (.iconst 1, 1) := by decide +kernel
theorem d_15_11_1352 : decode prog_15_method_11_code 1352 = .ok (.iconst (-1), 1) := by decide +kernel
theorem d_15_11_1353 : decode prog_15_method_11_code 1353 = .ok (.iastore, 1) := by decide +kernel
theorem d_15_11_1354 : decode prog_15_method_11_code 1354 = .ok (.dup, 1) := by decide +kernel
theorem d_15_11_1355 : decode prog_15_method_11_code 1355 = .ok (.iconst 2, 1) := by decide +kernel
theorem d_15_11_1356 : decode prog_15_method_11_code 1356 = .ok (.iconst (-1), 1) := by decide +kernel
theorem d_15_11_1357 : decode prog_15_method_11_code 1357 = .ok (.iastore, 1) := by decide +kernel
theorem d_15_11_1358 : decode prog_15_method_11_code 1358 = .ok (.dup, 1) := by decide +kernel
theorem d_15_11_1359 : decode prog_15_method_11_code 1359 = .ok (.iconst 3, 1) := by decide +kernel
theorem d_15_11_1360 : decode prog_15_method_11_code 1360 = .ok (.iconst (-1), 1) := by decide +kernel
theorem d_15_11_1361 : decode prog_15_method_11_code 1361 = .ok (.iastore, 1) := by decide +kernel
theorem d_15_11_1362 : decode prog_15_method_11_code 1362 = .ok (.dup, 1) := by decide +kernel
theorem d_15_11_1363 : decode prog_15_method_11_code 1363 = .ok (.iconst 4, 1) := by decide +kernel
theorem d_15_11_1364 : decode prog_15_method_11_code 1364 = .ok (.iconst 2, 1) := by decide +kernel
theorem d_15_11_1365 : decode prog_15_method_11_code 1365 = .ok (.iastore, 1) := by decide +kernel
theorem d_15_11_1366 : decode prog_15_method_11_code 1366 = .ok (.dup, 1) := by decide +kernel
theorem d_15_11_1367 : decode prog_15_method_11_code 1367 = .ok (.iconst 5, 1) := by decide +kernel
theorem d_15_11_1368 : decode prog_15_method_11_code 1368 = .ok (.iconst 4, 1) := by decide +kernel
theorem d_15_11_1369 : decode prog_15_method_11_code 1369 = .ok (.iastore, 1) := by decide +kernel
theorem d_15_11_1370 : decode prog_15_method_11_code 1370 = .ok (.dup, 1) := by decide +kernel
theorem d_15_11_1371 : decode prog_15_method_11_code 1371 = .ok (.bipush 6, 2) := by decide +kernel
theorem d_15_11_1373 : decode prog_15_method_11_code 1373 = .ok (.bipush 6, 2) := by decide +kernel
theorem d_15_11_1375 : decode prog_15_method_11_code 1375 = .ok (.iastore, 1) := by decide +kernel
theorem d_15_11_1376 : decode prog_15_method_11_code 1376 = .ok (.dup, 1) := by decide +kernel
theorem d_15_11_1377 : decode prog_15_method_11_code 1377 = .ok (.bipush 7, 2) := by decide +kernel
theorem d_15_11_1379 : decode prog_15_method_11_code 1379 = .ok (.bipush 8, 2) := by decide +kernel
theorem d_15_11_1381 : decode prog_15_method_11_code 1381 = .ok (.iastore, 1) := by decide +kernel
theorem d_15_11_1382 : decode prog_15_method_11_code 1382 = .ok (.putfield 284, 3) := by decide +kernel
theorem d_15_11_1385 : decode prog_15_method_11_code 1385 = .ok (.aload_n 0, 1) := by decide +kernel
theorem d_15_11_1386 : decode prog_15_method_11_code 1386 = .ok (.bipush 24, 2) := by decide +kernel
theorem d_15_11_1388 : decode prog_15_method_11_code 1388 = .ok (.newarray .int, 2) := by decide +kernel
theorem d_15_11_1390 : decode prog_15_method_11_code 1390 = .ok (.putfield 287, 3) := by decide +kernel
theorem d_15_11_1393 : decode prog_15_method_11_code 1393 = .ok (.aload_n 0, 1) := by decide +kernel
theorem d_15_11_1394 : decode prog_15_method_11_code 1394 = .ok (.bipush 24, 2) := by decide +kernel
theorem d_15_11_1396 : decode prog_15_method_11_code 1396 = .ok (.newarray .int, 2) := by decide +kernel
theorem d_15_11_1398 : decode prog_15_method_11_code 1398 = .ok (.putfield 290, 3) := by decide +kernel
theorem d_15_11_1401 : decode prog_15_method_11_code 1401 = .ok (.aload_n 0, 1) := by decide +kernel
theorem d_15_11_1402 : decode prog_15_method_11_code 1402 = .ok (.bipush 24, 2) := by decide +kernel
theorem d_15_11_1404 : decode prog_15_method_11_code 1404 = .ok (.newarray .int, 2) := by decide +kernel
theorem d_15_11_1406 : decode prog_15_method_11_code 1406 = .ok (.dup, 1) := by decide +kernel
theorem d_15_11_1407 : decode prog_15_method_11_code 1407 = .ok (.iconst 0, 1) := by decide +kernel
theorem d_15_11_1408 : decode prog_15_method_11_code 1408 = .ok (.sipush 635, 3) := by decide +kernel
theorem d_15_11_1411 : decode prog_15_method_11_code 1411 = .ok (.iastore, 1) := by decide +kernel
theorem d_15_11_1412 : decode prog_15_method_11_code 1412 = .ok (.dup, 1) := by decide +kernel
theorem d_15_11_1413 : decode prog_15_method_11_code 1413 = .ok (.iconst 1, 1) := by decide +kernel
theorem d_15_11_1414 : decode prog_15_method_11_code 1414 = .ok (.sipush 223, 3) := by decide +kernel
theorem d_15_11_1417 : decode prog_15_method_11_code 1417 = .ok (.iastore, 1) := by decide +kernel
theorem d_15_11_1418 : decode prog_15_method_11_code 1418 = .ok (.dup, 1) := by decide +kernel
theorem d_15_11_1419 : decode prog_15_method_11_code 1419 = .ok (.iconst 2, 1) := by decide +kernel
theorem d_15_11_1420 : decode prog_15_method_11_code 1420 = .ok (.sipush 348, 3) := by decide +kernel
theorem d_15_11_1423 : decode prog_15_method_11_code 1423 = .ok (.iastore, 1) := by decide +kernel
theorem d_15_11_1424 : decode prog_15_method_11_code 1424 = .ok (.dup, 1) := by decide +kernel
theorem d_15_11_1425 : decode prog_15_method_11_code 1425 = .ok (.iconst 3, 1) := by decide +kernel
theorem d_15_11_1426 : decode prog_15_method_11_code 1426 = .ok (.sipush 233, 3) := by decide +kernel
theorem d_15_11_1429 : decode prog_15_method_11_code 1429 = .ok (.iastore, 1) := by decide +kernel
theorem d_15_11_1430 : decode prog_15_method_11_code 1430 = .ok (.dup, 1) := by decide +kernel
theorem d_15_11_1431 : decode prog_15_method_11_code 1431 = .ok (.iconst 4, 1) := by decide +kernel
theorem d_15_11_1432 : decode prog_15_method_11_code 1432 = .ok (.sipush 438, 3) := by decide +kernel
theorem d_15_11_1435 : decode prog_15_method_11_code 1435 = .ok (.iastore, 1) := by decide +kernel
theorem d_15_11_1436 : decode prog_15_method_11_code 1436 = .ok (.dup, 1) := by decide +kernel
theorem d_15_11_1437 : decode prog_15_method_11_code 1437 = .ok (.iconst 5, 1) := by decide +kernel
theorem d_15_11_1438 : decode prog_15_method_11_code 1438 = .ok (.sipush 409, 3) := by decide +kernel
theorem d_15_11_1441 : decode prog_15_method_11_code 1441 = .ok (.iastore, 1) := by decide +kernel
theorem d_15_11_1442 : decode prog_15_method_11_code 1442 = .ok (.dup, 1) := by decide +kernel
theorem d_15_11_1443 : decode prog_15_method_11_code 1443 = .ok (.bipush 6, 2) := by decide +kernel
theorem d_15_11_1445 : decode prog_15_method_11_code 1445 = .ok (.sipush 252, 3) := by decide +kernel
theorem d_15_11_1448 : decode prog_15_method_11_code 1448 = .ok (.iastore, 1) := by decide +kernel
theorem d_15_11_1449 : decode prog_15_method_11_code 1449 = .ok (.dup, 1) := by decide +kernel
theorem d_15_11_1450 : decode prog_15_method_11_code 1450 = .ok (.bipush 7, 2) := by decide +kernel
theorem d_15_11_1452 : decode prog_15_method_11_code 1452 = .ok (.sipush 519, 3) := by decide +kernel
theorem d_15_11_1455 : decode prog_15_method_11_code 1455 = .ok (.iastore, 1) := by decide +kernel
theorem d_15_11_1456 : decode prog_15_method_11_code 1456 = .ok (.dup, 1) := by decide +kernel
theorem d_15_11_1457 : decode prog_15_method_11_code 1457 = .ok (.bipush 8, 2) := by decide +kernel
theorem d_15_11_1459 : decode prog_15_method_11_code 1459 = .ok (.sipush 239, 3) := by decide +kernel
theorem d_15_11_1462 : decode prog_15_method_11_code 1462 = .ok (.iastore, 1) := by decide +kernel
theorem d_15_11_1463 : decode prog_15_method_11_code 1463 = .ok (.dup, 1) := by decide +kernel
theorem d_15_11_1464 : decode prog_15_method_11_code 1464 = .ok (.bipush 9, 2) := by decide +kernel
theorem d_15_11_1466 : decode prog_15_method_11_code 1466 = .ok (.sipush 366, 3) := by decide +kernel
theorem d_15_11_1469 : decode prog_15_method_11_code 1469 = .ok (.iastore, 1) := by decide +kernel
theorem d_15_11_1470 : decode prog_15_method_11_code 1470 = .ok (.dup, 1) := by decide +kernel
theorem d_15_11_1471 : decode prog_15_method_11_code 1471 = .ok (.bipush 10, 2) := by decide +kernel
theorem d_15_11_1473 : decode prog_15_method_11_code 1473 = .ok (.sipush 229, 3) := by decide +kernel
theorem d_15_11_1476 : decode prog_15_method_11_code 1476 = .ok (.iastore, 1) := by decide +kernel
theorem d_15_11_1477 : decode prog_15_method_11_code 1477 = .ok (.dup, 1) := by decide +kernel
theorem d_15_11_1478 : decode prog_15_method_11_code 1478 = .ok (.bipush 11, 2) := by decide +kernel
theorem d_15_11_1480 : decode prog_15_method_11_code 1480 = .ok (.sipush 288, 3) := by decide +kernel
theorem d_15_11_1483 : decode prog_15_method_11_code 1483 = .ok (.iastore, 1) := by decide +kernel
theorem d_15_11_1484 : decode prog_15_method_11_code 1484 = .ok (.dup, 1) := by decide +kernel
theorem d_15_11_1485 : decode prog_15_method_11_code 1485 = .ok (.bipush 12, 2) := by decide +kernel
theorem d_15_11_1487 : decode prog_15_method_11_code 1487 = .ok (.sipush 633, 3) := by decide +kernel
theorem d_15_11_1490 : decode prog_15_method_11_code 1490 = .ok (.iastore, 1) := by decide +kernel
theorem d_15_11_1491 : decode prog_15_method_11_code 1491 = .ok (.dup, 1) := by decide +kernel
theorem d_15_11_1492 : decode prog_15_method_11_code 1492 = .ok (.bipush 13, 2) := by decide +kernel
theorem d_15_11_1494 : decode prog_15_method_11_code 1494 = .ok (.sipush 268, 3) := by decide +kernel
theorem d_15_11_1497 : decode prog_15_method_11_code 1497 = .ok (.iastore, 1) := by decide +kernel
theorem d_15_11_1498 : decode prog_15_method_11_code 1498 = .ok (.dup, 1) := by decide +kernel
theorem d_15_11_1499 : decode prog_15_method_11_code 1499 = .ok (.bipush 14, 2) := by decide +kernel
theorem d_15_11_1501 : decode prog_15_method_11_code 1501 = .ok (.sipush 352, 3) := by decide +kernel
theorem d_15_11_1504 : decode prog_15_method_11_code 1504 = .ok (.iastore, 1) := by decide +kernel
theorem d_15_11_1505 : decode prog_15_method_11_code 1505 = .ok (.dup, 1) := by decide +kernel
theorem d_15_11_1506 : decode prog_15_method_11_code 1506 = .ok (.bipush 15, 2) := by decide +kernel
theorem d_15_11_1508 : decode prog_15_method_11_code 1508 = .ok (.sipush 538, 3) := by decide +kernel
theorem d_15_11_1511 : decode prog_15_method_11_code 1511 = .ok (.iastore, 1) := by decide +kernel
theorem d_15_11_1512 : decode prog_15_method_11_code 1512 = .ok (.dup, 1) := by decide +kernel
theorem d_15_11_1513 : decode prog_15_method_11_code 1513 = .ok (.bipush 16, 2) := by decide +kernel
theorem d_15_11_1515 : decode prog_15_method_11_code 1515 = .ok (.sipush 260, 3) := by decide +kernel
theorem d_15_11_1518 : decode prog_15_method_11_code 1518 = .ok (.iastore, 1) := by decide +kernel
theorem d_15_11_1519 : decode prog_15_method_11_code 1519 = .ok (.dup, 1) := by decide +kernel
theorem d_15_11_1520 : decode prog_15_method_11_code 1520 = .ok (.bipush 17, 2) := by decide +kernel
theorem d_15_11_1522 : decode prog_15_method_11_code 1522 = .ok (.sipush 353, 3) := by decide +kernel
theorem d_15_11_1525 : decode prog_15_method_11_code 1525 = .ok (.iastore, 1) := by decide +kernel
theorem d_15_11_1526 : decode prog_15_method_11_code 1526 = .ok (.dup, 1) := by decide +kernel
theorem d_15_11_1527 : decode prog_15_method_11_code 1527 = .ok (.bipush 18, 2) := by decide +kernel
theorem d_15_11_1529 : decode prog_15_method_11_code 1529 = .ok (.sipush 254, 3) := by decide +kernel
theorem d_15_11_1532 : decode prog_15_method_11_code 1532 = .ok (.iastore, 1) := by decide +kernel
theorem d_15_11_1533 : decode prog_15_method_11_code 1533 = .ok (.dup, 1) := by decide +kernel
theorem d_15_11_1534 : decode prog_15_method_11_code 1534 = .ok (.bipush 19, 2) := by decide +kernel
theorem d_15_11_1536 : decode prog_15_method_11_code 1536 = .ok (.sipush 475, 3) := by decide +kernel
theorem d_15_11_1539 : decode prog_15_method_11_code 1539 = .ok (.iastore, 1) := by decide +kernel
theorem d_15_11_1540 : decode prog_15_method_11_code 1540 = .ok (.dup, 1) := by decide +kernel
theorem d_15_11_1541 : decode prog_15_method_11_code 1541 = .ok (.bipush 20, 2) := by decide +kernel
theorem d_15_11_1543 : decode prog_15_method_11_code 1543 = .ok (.sipush 398, 3) := by decide +kernel
theorem d_15_11_1546 : decode prog_15_method_11_code 1546 = .ok (.iastore, 1) := by decide +kernel
theorem d_15_11_1547 : decode prog_15_method_11_code 1547 = .ok (.dup, 1) := by decide +kernel
theorem d_15_11_1548 : decode prog_15_method_11_code 1548 = .ok (.bipush 21, 2) := by decide +kernel
theorem d_15_11_1550 : decode prog_15_method_11_code 1550 = .ok (.sipush 269, 3) := by decide +kernel
theorem d_15_11_1553 : decode prog_15_method_11_code 1553 = .ok (.iastore, 1) := by decide +kernel
theorem d_15_11_1554 : decode prog_15_method_11_code 1554 = .ok (.dup, 1) := by decide +kernel
theorem d_15_11_1555 : decode prog_15_method_11_code 1555 = .ok (.bipush 22, 2) := by decide +kernel
theorem d_15_11_1557 : decode prog_15_method_11_code 1557 = .ok (.sipush 334, 3) := by decide +kernel
theorem d_15_11_1560 : decode prog_15_method_11_code 1560 = .ok (.iastore, 1) := by decide +kernel
theorem d_15_11_1561 : decode prog_15_method_11_code 1561 = .ok (.dup, 1) := by decide +kernel
theorem d_15_11_1562 : decode prog_15_method_11_code 1562 = .ok (.bipush 23, 2) := by decide +kernel
theorem d_15_11_1564 : decode prog_15_method_11_code 1564 = .ok (.sipush 317, 3) := by decide +kernel
theorem d_15_11_1567 : decode prog_15_method_11_code 1567 = .ok (.iastore, 1) := by decide +kernel
theorem d_15_11_1568 : decode prog_15_method_11_code 1568 = .ok (.putfield 293, 3) := by decide +kernel
theorem d_15_11_1571 : decode prog_15_method_11_code 1571 = .ok (.return_, 1) := by decide +kernel
set_option maxRecDepth 20000 in
theorem inW_14 : ∀ w ∈ u_ws RX14 TX14 107, w ∈ wAll := by
  show ∀ w ∈ [(Jvm.Cond.lays "StaveHouseModel" "StaveHouseModel" "ru" "J"), (Jvm.Cond.lays "StaveHouseModel" "StaveHouseModel" "rd" "J"), (Jvm.Cond.laysFinal "StaveHouseModel" "StaveHouseModel" "tape" "[B"), (Jvm.Cond.lays "StaveHouseModel" "StaveHouseModel" "size" "I"), (Jvm.Cond.laysFinal "StaveHouseModel" "StaveHouseModel" "waits" "[B"), (Jvm.Cond.laysFinal "StaveHouseModel" "StaveHouseModel" "pieces" "[LStaveHouseModel$Piece;"), (Jvm.Cond.lays "StaveHouseModel" "StaveHouseModel" "work" "LStaveHouseModel$Piece;"), (Jvm.Cond.laysFinal "StaveHouseModel" "StaveHouseModel" "kind" "[I"), (Jvm.Cond.laysFinal "StaveHouseModel" "StaveHouseModel" "at" "[I"), (Jvm.Cond.laysFinal "StaveHouseModel" "StaveHouseModel" "value" "[I"), (Jvm.Cond.laysFinal "StaveHouseModel" "StaveHouseModel" "altered" "[I"), (Jvm.Cond.laysFinal "StaveHouseModel" "StaveHouseModel" "word" "[J"), (Jvm.Cond.lays "StaveHouseModel" "StaveHouseModel" "tokens" "I"), (Jvm.Cond.laysFinal "StaveHouseModel" "StaveHouseModel" "clefs" "[J"), (Jvm.Cond.laysFinal "StaveHouseModel" "StaveHouseModel" "louds" "[J"), (Jvm.Cond.laysFinal "StaveHouseModel" "StaveHouseModel" "others" "[J"), (Jvm.Cond.lays "StaveHouseModel" "StaveHouseModel" "t" "I"), (Jvm.Cond.lays "StaveHouseModel" "StaveHouseModel" "fault" "I"), (Jvm.Cond.lays "StaveHouseModel" "StaveHouseModel" "place" "I"), (Jvm.Cond.lays "StaveHouseModel" "StaveHouseModel" "openMany" "I"), (Jvm.Cond.lays "StaveHouseModel" "StaveHouseModel" "nearNumber" "I"), (Jvm.Cond.lays "StaveHouseModel" "StaveHouseModel" "nearPoints" "I"), (Jvm.Cond.lays "StaveHouseModel" "StaveHouseModel" "hadKey" "Z"), (Jvm.Cond.lays "StaveHouseModel" "StaveHouseModel" "hadTime" "Z"), (Jvm.Cond.lays "StaveHouseModel" "StaveHouseModel" "hadTempo" "Z"), (Jvm.Cond.laysFinal "StaveHouseModel" "StaveHouseModel" "letName" "[J"), (Jvm.Cond.laysFinal "StaveHouseModel" "StaveHouseModel" "letOpen" "[I"), (Jvm.Cond.lays "StaveHouseModel" "StaveHouseModel" "lets" "I"), (Jvm.Cond.laysFinal "StaveHouseModel" "StaveHouseModel" "voiceToken" "[I"), (Jvm.Cond.laysFinal "StaveHouseModel" "StaveHouseModel" "voiceOpen" "[I"), (Jvm.Cond.laysFinal "StaveHouseModel" "StaveHouseModel" "closeOf" "[I"), (Jvm.Cond.laysFinal "StaveHouseModel" "StaveHouseModel" "behind" "[I"), (Jvm.Cond.laysFinal "StaveHouseModel" "StaveHouseModel" "lengthNumber" "[I"), (Jvm.Cond.laysFinal "StaveHouseModel" "StaveHouseModel" "lengthPoints" "[I"), (Jvm.Cond.laysFinal "StaveHouseModel" "StaveHouseModel" "marksOf" "[I"), (Jvm.Cond.lays "StaveHouseModel" "StaveHouseModel" "v" "I"), (Jvm.Cond.lays "StaveHouseModel" "StaveHouseModel" "made" "I"), (Jvm.Cond.lays "StaveHouseModel" "StaveHouseModel" "items" "I"), (Jvm.Cond.lays "StaveHouseModel" "StaveHouseModel" "comeUp" "J"), (Jvm.Cond.lays "StaveHouseModel" "StaveHouseModel" "comeDown" "J"), (Jvm.Cond.lays "StaveHouseModel" "StaveHouseModel" "loud" "I"), (Jvm.Cond.lays "StaveHouseModel" "StaveHouseModel" "backs" "I"), (Jvm.Cond.laysFinal "StaveHouseModel" "StaveHouseModel" "mirrors" "[Z"), (Jvm.Cond.laysFinal "StaveHouseModel" "StaveHouseModel" "steps" "[I"), (Jvm.Cond.laysFinal "StaveHouseModel" "StaveHouseModel" "tones" "[I"), (Jvm.Cond.lays "StaveHouseModel" "StaveHouseModel" "changes" "I"), (Jvm.Cond.laysFinal "StaveHouseModel" "StaveHouseModel" "firsts" "[I"), (Jvm.Cond.laysFinal "StaveHouseModel" "StaveHouseModel" "seconds" "[I"), (Jvm.Cond.lays "StaveHouseModel" "StaveHouseModel" "brackets" "I"), (Jvm.Cond.lays "StaveHouseModel" "StaveHouseModel" "outerToken" "I"), (Jvm.Cond.lays "StaveHouseModel" "StaveHouseModel" "outerTimes" "I"), (Jvm.Cond.laysFinal "StaveHouseModel" "StaveHouseModel" "powers" "[I"), (Jvm.Cond.lays "StaveHouseModel" "StaveHouseModel" "leftUp" "J"), (Jvm.Cond.lays "StaveHouseModel" "StaveHouseModel" "leftDown" "J"), (Jvm.Cond.lays "StaveHouseModel" "StaveHouseModel" "hereUp" "J"), (Jvm.Cond.lays "StaveHouseModel" "StaveHouseModel" "hereDown" "J"), (Jvm.Cond.lays "StaveHouseModel" "StaveHouseModel" "bestForm" "I"), (Jvm.Cond.lays "StaveHouseModel" "StaveHouseModel" "bestPoints" "I"), (Jvm.Cond.laysFinal "StaveHouseModel" "StaveHouseModel" "knows" "[I"), (Jvm.Cond.laysFinal "StaveHouseModel" "StaveHouseModel" "least" "[J"), (Jvm.Cond.laysFinal "StaveHouseModel" "StaveHouseModel" "most" "[I"), (Jvm.Cond.laysFinal "StaveHouseModel" "StaveHouseModel" "forces" "[I"), (Jvm.Cond.lays "StaveHouseModel" "StaveHouseModel" "sounds" "I"), (Jvm.Cond.laysFinal "StaveHouseModel" "StaveHouseModel" "begins" "[I"), (Jvm.Cond.laysFinal "StaveHouseModel" "StaveHouseModel" "ends" "[I"), (Jvm.Cond.laysFinal "StaveHouseModel" "StaveHouseModel" "tonesOf" "[I"), (Jvm.Cond.laysFinal "StaveHouseModel" "StaveHouseModel" "forcesOf" "[I"), (Jvm.Cond.laysFinal "StaveHouseModel" "StaveHouseModel" "voicesOf" "[I"), (Jvm.Cond.laysFinal "StaveHouseModel" "StaveHouseModel" "eventsOf" "[I"), (Jvm.Cond.laysFinal "StaveHouseModel" "StaveHouseModel" "order" "[I"), (Jvm.Cond.laysFinal "StaveHouseModel" "StaveHouseModel" "out" "[B"), (Jvm.Cond.lays "StaveHouseModel" "StaveHouseModel" "outs" "I"), (Jvm.Cond.lays "StaveHouseModel" "StaveHouseModel" "isOpen" "Z"), (Jvm.Cond.laysFinal "StaveHouseModel" "StaveHouseModel" "told" "[I"), (Jvm.Cond.laysFinal "StaveHouseModel" "StaveHouseModel" "toldNow" "[I"), (Jvm.Cond.laysFinal "StaveHouseModel" "StaveHouseModel" "soundTrack" "[I"), (Jvm.Cond.laysFinal "StaveHouseModel" "StaveHouseModel" "soundChannel" "[I"), (Jvm.Cond.laysFinal "StaveHouseModel" "StaveHouseModel" "soundTone" "[I"), (Jvm.Cond.laysFinal "StaveHouseModel" "StaveHouseModel" "soundForce" "[I"), (Jvm.Cond.laysFinal "StaveHouseModel" "StaveHouseModel" "soundBegin" "[J"), (Jvm.Cond.laysFinal "StaveHouseModel" "StaveHouseModel" "soundEnd" "[J"), (Jvm.Cond.laysFinal "StaveHouseModel" "StaveHouseModel" "trackNumber" "[I"), (Jvm.Cond.laysFinal "StaveHouseModel" "StaveHouseModel" "nowTrack" "[I"), (Jvm.Cond.laysFinal "StaveHouseModel" "StaveHouseModel" "nowChannel" "[I"), (Jvm.Cond.laysFinal "StaveHouseModel" "StaveHouseModel" "nowTone" "[I"), (Jvm.Cond.laysFinal "StaveHouseModel" "StaveHouseModel" "nowForce" "[I"), (Jvm.Cond.laysFinal "StaveHouseModel" "StaveHouseModel" "nowBegin" "[J"), (Jvm.Cond.laysFinal "StaveHouseModel" "StaveHouseModel" "nowEnd" "[J"), (Jvm.Cond.laysFinal "StaveHouseModel" "StaveHouseModel" "nowNumber" "[I"), (Jvm.Cond.lays "StaveHouseModel" "StaveHouseModel" "p" "I"), (Jvm.Cond.lays "StaveHouseModel" "StaveHouseModel" "limit" "J"), (Jvm.Cond.lays "StaveHouseModel" "StaveHouseModel" "hasTime" "Z"), (Jvm.Cond.lays "StaveHouseModel" "StaveHouseModel" "hasKey" "Z"), (Jvm.Cond.lays "StaveHouseModel" "StaveHouseModel" "hasTempo" "Z"), (Jvm.Cond.lays "StaveHouseModel" "StaveHouseModel" "nowSounds" "I"), (Jvm.Cond.laysFinal "StaveHouseModel" "StaveHouseModel" "sixTones" "[I"), (Jvm.Cond.laysFinal "StaveHouseModel" "StaveHouseModel" "table" "[I"), (Jvm.Cond.laysFinal "StaveHouseModel" "StaveHouseModel" "moves" "[I"), (Jvm.Cond.laysFinal "StaveHouseModel" "StaveHouseModel" "classLetter" "[I"), (Jvm.Cond.laysFinal "StaveHouseModel" "StaveHouseModel" "classAlt" "[I"), (Jvm.Cond.lays "StaveHouseModel" "StaveHouseModel" "classes" "I"), (Jvm.Cond.lays "StaveHouseModel" "StaveHouseModel" "bass" "I"), (Jvm.Cond.lays "StaveHouseModel" "StaveHouseModel" "bassStep" "I"), (Jvm.Cond.lays "StaveHouseModel" "StaveHouseModel" "bassAlt" "I"), (Jvm.Cond.lays "StaveHouseModel" "StaveHouseModel" "chordKind" "I"), (Jvm.Cond.lays "StaveHouseModel" "StaveHouseModel" "root" "I"), (Jvm.Cond.laysFinal "StaveHouseModel" "StaveHouseModel" "weights" "[I")], w ∈ wAll
  exact List.forall_mem_cons.mpr ⟨k_11_105, List.forall_mem_cons.mpr ⟨k_11_107, List.forall_mem_cons.mpr ⟨k_11_109, List.forall_mem_cons.mpr ⟨k_11_111, List.forall_mem_cons.mpr ⟨k_11_113, List.forall_mem_cons.mpr ⟨k_11_115, List.forall_mem_cons.mpr ⟨k_11_117, List.forall_mem_cons.mpr ⟨k_11_119, List.forall_mem_cons.mpr ⟨k_11_121, List.forall_mem_cons.mpr ⟨k_11_123, List.forall_mem_cons.mpr ⟨k_11_125, List.forall_mem_cons.mpr ⟨k_11_127, List.forall_mem_cons.mpr ⟨k_11_129, List.forall_mem_cons.mpr ⟨k_11_131, List.forall_mem_cons.mpr ⟨k_11_133, List.forall_mem_cons.mpr ⟨k_11_135, List.forall_mem_cons.mpr ⟨k_11_137, List.forall_mem_cons.mpr ⟨k_11_139, List.forall_mem_cons.mpr ⟨k_11_141, List.forall_mem_cons.mpr ⟨k_11_143, List.forall_mem_cons.mpr ⟨k_11_145, List.forall_mem_cons.mpr ⟨k_11_147, List.forall_mem_cons.mpr ⟨k_11_149, List.forall_mem_cons.mpr ⟨k_11_151, List.forall_mem_cons.mpr ⟨k_11_153, List.forall_mem_cons.mpr ⟨k_11_155, List.forall_mem_cons.mpr ⟨k_11_157, List.forall_mem_cons.mpr ⟨k_11_159, List.forall_mem_cons.mpr ⟨k_11_161, List.forall_mem_cons.mpr ⟨k_11_163, List.forall_mem_cons.mpr ⟨k_11_165, List.forall_mem_cons.mpr ⟨k_11_167, List.forall_mem_cons.mpr ⟨k_11_169, List.forall_mem_cons.mpr ⟨k_11_171, List.forall_mem_cons.mpr ⟨k_11_173, List.forall_mem_cons.mpr ⟨k_11_175, List.forall_mem_cons.mpr ⟨k_11_177, List.forall_mem_cons.mpr ⟨k_11_179, List.forall_mem_cons.mpr ⟨k_11_181, List.forall_mem_cons.mpr ⟨k_11_183, List.forall_mem_cons.mpr ⟨k_11_185, List.forall_mem_cons.mpr ⟨k_11_187, List.forall_mem_cons.mpr ⟨k_11_189, List.forall_mem_cons.mpr ⟨k_11_191, List.forall_mem_cons.mpr ⟨k_11_193, List.forall_mem_cons.mpr ⟨k_11_195, List.forall_mem_cons.mpr ⟨k_11_197, List.forall_mem_cons.mpr ⟨k_11_199, List.forall_mem_cons.mpr ⟨k_11_201, List.forall_mem_cons.mpr ⟨k_11_203, List.forall_mem_cons.mpr ⟨k_11_205, List.forall_mem_cons.mpr ⟨k_11_207, List.forall_mem_cons.mpr ⟨k_11_209, List.forall_mem_cons.mpr ⟨k_11_211, List.forall_mem_cons.mpr ⟨k_11_213, List.forall_mem_cons.mpr ⟨k_11_215, List.forall_mem_cons.mpr ⟨k_11_217, List.forall_mem_cons.mpr ⟨k_11_219, List.forall_mem_cons.mpr ⟨k_11_221, List.forall_mem_cons.mpr ⟨k_11_223, List.forall_mem_cons.mpr ⟨k_11_225, List.forall_mem_cons.mpr ⟨k_11_227, List.forall_mem_cons.mpr ⟨k_11_229, List.forall_mem_cons.mpr ⟨k_11_231, List.forall_mem_cons.mpr ⟨k_11_233, List.forall_mem_cons.mpr ⟨k_11_235, List.forall_mem_cons.mpr ⟨k_11_237, List.forall_mem_cons.mpr ⟨k_11_239, List.forall_mem_cons.mpr ⟨k_12_1, List.forall_mem_cons.mpr ⟨k_12_3, List.forall_mem_cons.mpr ⟨k_12_5, List.forall_mem_cons.mpr ⟨k_12_7, List.forall_mem_cons.mpr ⟨k_12_9, List.forall_mem_cons.mpr ⟨k_12_11, List.forall_mem_cons.mpr ⟨k_12_13, List.forall_mem_cons.mpr ⟨k_12_15, List.forall_mem_cons.mpr ⟨k_12_17, List.forall_mem_cons.mpr ⟨k_12_19, List.forall_mem_cons.mpr ⟨k_12_21, List.forall_mem_cons.mpr ⟨k_12_23, List.forall_mem_cons.mpr ⟨k_12_25, List.forall_mem_cons.mpr ⟨k_12_27, List.forall_mem_cons.mpr ⟨k_12_29, List.forall_mem_cons.mpr ⟨k_12_31, List.forall_mem_cons.mpr ⟨k_12_33, List.forall_mem_cons.mpr ⟨k_12_35, List.forall_mem_cons.mpr ⟨k_12_37, List.forall_mem_cons.mpr ⟨k_12_39, List.forall_mem_cons.mpr ⟨k_12_41, List.forall_mem_cons.mpr ⟨k_12_43, List.forall_mem_cons.mpr ⟨k_12_45, List.forall_mem_cons.mpr ⟨k_12_47, List.forall_mem_cons.mpr ⟨k_12_49, List.forall_mem_cons.mpr ⟨k_12_51, List.forall_mem_cons.mpr ⟨k_12_53, List.forall_mem_cons.mpr ⟨k_12_55, List.forall_mem_cons.mpr ⟨k_12_57, List.forall_mem_cons.mpr ⟨k_12_59, List.forall_mem_cons.mpr ⟨k_12_61, List.forall_mem_cons.mpr ⟨k_12_63, List.forall_mem_cons.mpr ⟨k_12_65, List.forall_mem_cons.mpr ⟨k_12_67, List.forall_mem_cons.mpr ⟨k_12_69, List.forall_mem_cons.mpr ⟨k_12_71, List.forall_mem_cons.mpr ⟨k_12_73, List.forall_mem_cons.mpr ⟨k_12_75, List.forall_mem_cons.mpr ⟨k_12_77, fun _ h => absurd h List.not_mem_nil⟩⟩⟩⟩⟩⟩⟩⟩⟩⟩⟩⟩⟩⟩⟩⟩⟩⟩⟩⟩⟩⟩⟩⟩⟩⟩⟩⟩⟩⟩⟩⟩⟩⟩⟩⟩⟩⟩⟩⟩⟩⟩⟩⟩⟩⟩⟩⟩⟩⟩⟩⟩⟩⟩⟩⟩⟩⟩⟩⟩⟩⟩⟩⟩⟩⟩⟩⟩⟩⟩⟩⟩⟩⟩⟩⟩⟩⟩⟩⟩⟩⟩⟩⟩⟩⟩⟩⟩⟩⟩⟩⟩⟩⟩⟩⟩⟩⟩⟩⟩⟩⟩⟩⟩⟩⟩⟩
abbrev Q_M_init_0 (D : va_G) (ca : Nat → ClassId) (a0 : Nat) (g0 : Nat → Value) (A : Nat → Prop) : Array Value → State → Outcome → State → Prop := va_Qv (S := (Nat → Value) × (Nat) × (Nat → Int32) × (Nat) × (Nat → Int32) × (Nat) × (Nat → Int32) × (Nat) × (Nat → Value) × (Nat) × (Nat → Option Nat) × (Nat) × (Nat → Int32) × (Nat) × (Nat → Int32) × (Nat) × (Nat → Value) × (Nat) × (Nat → Value)) (fun (u : (Nat → Value) × (Nat) × (Nat → Int32) × (Nat) × (Nat → Int32) × (Nat) × (Nat → Int32) × (Nat) × (Nat → Value) × (Nat) × (Nat → Option Nat) × (Nat) × (Nat → Int32) × (Nat) × (Nat → Int32) × (Nat) × (Nat → Value) × (Nat) × (Nat → Value)) => gM g0 u.1 [106, 99, 98, 97, 96, 95, 88, 87, 86, 85, 84, 83, 82, 81, 80, 79, 78, 77, 76, 75, 74, 73, 70, 69, 68, 67, 66, 65, 64, 63, 61, 60, 59, 58, 51, 47, 46, 44, 43, 42, 34, 33, 32, 31, 30, 29, 28, 26, 25, 15, 14, 13, 11, 10, 9, 8, 7, 6, 5, 4, 2, 1] ∧ gF u.1 [(74, .ref u.2.1), (8, .ref u.2.2.2.1), (7, .ref u.2.2.2.2.2.1), (6, .ref u.2.2.2.2.2.2.2.1), (5, .ref u.2.2.2.2.2.2.2.2.2.1), (4, .ref u.2.2.2.2.2.2.2.2.2.2.2.1), (2, .ref u.2.2.2.2.2.2.2.2.2.2.2.2.2.1)] ∧ gF u.2.2.1 [] ∧ gF u.2.2.2.2.1 [] ∧ gF u.2.2.2.2.2.2.1 [] ∧ gF u.2.2.2.2.2.2.2.2.1 [(0, .int 0), (1, .int 0)] ∧ gF u.2.2.2.2.2.2.2.2.2.2.1 [(1, some u.2.2.2.2.2.2.2.2.2.2.2.2.2.2.2.1), (0, some u.2.2.2.2.2.2.2.2.2.2.2.2.2.2.2.2.2.1)] ∧ gF u.2.2.2.2.2.2.2.2.2.2.2.2.1 [] ∧ gF u.2.2.2.2.2.2.2.2.2.2.2.2.2.2.1 [] ∧ gF u.2.2.2.2.2.2.2.2.2.2.2.2.2.2.2.2.1 [(0, .int 0), (1, .int 0)] ∧ gF u.2.2.2.2.2.2.2.2.2.2.2.2.2.2.2.2.2.2 [(0, .int 0), (1, .int 0)]) (fun u => gB D ca A [(a0, .inr (14, rg 107 u.1)), (u.2.1, .inl (ca 0, 8, .inl u.2.2.1)), (u.2.2.2.1, .inl (ca 0, 3001, .inl u.2.2.2.2.1)), (u.2.2.2.2.2.1, .inl (ca 0, 3001, .inl u.2.2.2.2.2.2.1)), (u.2.2.2.2.2.2.2.1, .inr (13, rg 81 u.2.2.2.2.2.2.2.2.1)), (u.2.2.2.2.2.2.2.2.2.1, .inl (ca 5, 2, .inr (.inr (.inr (.inr u.2.2.2.2.2.2.2.2.2.2.1))))), (u.2.2.2.2.2.2.2.2.2.2.2.1, .inl (ca 2, 20, .inl u.2.2.2.2.2.2.2.2.2.2.2.2.1)), (u.2.2.2.2.2.2.2.2.2.2.2.2.2.1, .inl (ca 2, 3000, .inl u.2.2.2.2.2.2.2.2.2.2.2.2.2.2.1)), (u.2.2.2.2.2.2.2.2.2.2.2.2.2.2.2.1, .inr (13, rg 81 u.2.2.2.2.2.2.2.2.2.2.2.2.2.2.2.2.1)), (u.2.2.2.2.2.2.2.2.2.2.2.2.2.2.2.2.2.1, .inr (13, rg 81 u.2.2.2.2.2.2.2.2.2.2.2.2.2.2.2.2.2.2))]) A
set_option maxHeartbeats 8000000 in
set_option maxRecDepth 100000 in
theorem c_M_init_0 (l : Launch) (D : va_G) (ca : Nat → ClassId) (ad av : Nat → Nat) (sz : Nat) (a0 : Nat) (g0 : Nat → Value) (hp0 : gF g0 []) : Met l ({ cls := "StaveHouseModel", name := "<init>", desc := "()V" } : Jvm.MethodName) (Cond.code ({ cls := "StaveHouseModel", name := "<init>", desc := "()V" } : Jvm.MethodName) prog_15_method_11_code 1 (Option.none : Option Jvm.ClassFile.FieldType) :: wAll) ({ frames := 5, cells := 246, slots := 654985, locals := 108 } : Room) (va_Pc [.ref a0] (gPre D ca ad av [(a0, .inr (14, rg 107 g0))] sz)) (Q_M_init_0 D ca a0 g0 (va_A [(a0, .inr (14, rg 107 g0))] sz)) 246 654985 (va_A [(a0, .inr (14, rg 107 g0))] sz) := by
  refine gMet (Qc := Q_M_init_0 D ca a0 g0) (lv := [(0, .ref a0)]) (by decide) (Nat.le_of_ble_eq_true rfl) rfl (fun A p e s m below meth c ls hx hb hr hml hown hts hlk hnm hl hP hK hD hS hA hX => ?_)
  have hown : s.vm.findClass "StaveHouseModel" = some m.cls := hown
  have hnm : meth.name = "<init>" := hnm
  refine lv_aload_n hx hb d_15_11_0 rfl (lv_at hl 0 rfl) ?_
  refine W.objInit hx hb hown (hts _ k_9_117) (hts _ k_1_30) (hts _ k_1_31) rfl (by rw [hml]; exact hl.1) rfl d_15_11_1 (Nat.le_of_ble_eq_true rfl) (Nat.le_of_ble_eq_true rfl) ?_
  refine W.eq (g2 := F0 m 4 ls []) rfl ?_
  refine lv_aload_n hx hb d_15_11_4 rfl (lv_at hl 0 rfl) ?_
  refine lv_lconst (v := 1) hx hb d_15_11_5 (by decide) ?_
  refine gputX hx hb hts inW_14 tyX14 tyX14_ok nmX14 hown hK hP hD hS 0 rfl rfl hp0 1 (by decide) k_10_239 rfl rfl rfl d_15_11_6 (L' := []) rfl (fun f1 H1 locs1 hF1 hm1 hP1 hD1 hS1 => ?_)
  have hM1 := gM.tr (gM.rf (f := g0)) hm1
  have hP1 : va_P D cls [(a0, .inr (14, rg 107 f1))] H1 := hP1
  have hD1 : va_D A [(a0, .inr (14, rg 107 f1))] := hD1
  clear hm1
  refine lv_aload_n hx hb d_15_11_9 rfl (lv_at hl 0 rfl) ?_
  refine lv_sipush (v := 3000) hx hb d_15_11_10 (by decide) ?_
  refine gnewa (atype := .byte) hx hb hts (ty := .byte) rfl k_4_180 hK 2 rfl (fun _ _ => gu_byte) hP1 hD1 hS1 hA (a0 := (3000, .inl (fun _ => 0))) (fun _ => rfl) (by decide) (N' := 3000) (by decide) (Nat.le_of_ble_eq_true rfl) (Nat.le_of_ble_eq_true rfl) (Nat.le_of_ble_eq_true rfl) d_15_11_13 (fun q2 H2 hP2 hD2 hS2 => ?_)
  obtain ⟨f2, hF2, hP2, hD2⟩ : ∃ f : Nat → Int32, gF f [] ∧ va_P D cls ([(a0, .inr (14, rg 107 f1))] ++ [(q2, .inl (ca 2, 3000, .inl f))]) H2 ∧ va_D A ([(a0, .inr (14, rg 107 f1))] ++ [(q2, .inl (ca 2, 3000, .inl f))]) := ⟨_, gF_nil, hP2, hD2⟩
  have hP2 : va_P D cls [(a0, .inr (14, rg 107 f1)), (q2, .inl (ca 2, 3000, .inl f2))] H2 := hP2
  have hD2 : va_D A [(a0, .inr (14, rg 107 f1)), (q2, .inl (ca 2, 3000, .inl f2))] := hD2
  refine W.widen (k := 1) (n := 3000) (Nat.le_of_ble_eq_true rfl) (Nat.le_of_ble_eq_true rfl) ?_
  refine gputF hx hb hts inW_14 tyX14 tyX14_ok nmX14 hown hK hP2 hD2 hS2 0 rfl rfl hF1 2 (by decide) k_11_0 rfl hnm rfl rfl rfl d_15_11_15 (L' := [(2, .ref q2)]) rfl (fun f3 H3 locs3 hF3 hm3 hP3 hD3 hS3 => ?_)
  have hM3 := gM.tr hM1 hm3
  have hP3 : va_P D cls [(a0, .inr (14, rg 107 f3)), (q2, .inl (ca 2, 3000, .inl f2))] H3 := hP3
  have hD3 : va_D A [(a0, .inr (14, rg 107 f3)), (q2, .inl (ca 2, 3000, .inl f2))] := hD3
  clear hP2 hD2 hS2 hF1 hM1 hm3
  refine lv_aload_n hx hb d_15_11_18 rfl (lv_at hl 0 rfl) ?_
  refine lv_bipush (v := 20) hx hb d_15_11_19 (by decide) ?_
  refine gnewa (atype := .byte) hx hb hts (ty := .byte) rfl k_4_180 hK 2 rfl (fun _ _ => gu_byte) hP3 hD3 hS3 hA (a0 := (20, .inl (fun _ => 0))) (fun _ => rfl) (by decide) (N' := 20) (by decide) (Nat.le_of_ble_eq_true rfl) (Nat.le_of_ble_eq_true rfl) (Nat.le_of_ble_eq_true rfl) d_15_11_21 (fun q4 H4 hP4 hD4 hS4 => ?_)
  obtain ⟨f4, hF4, hP4, hD4⟩ : ∃ f : Nat → Int32, gF f [] ∧ va_P D cls ([(a0, .inr (14, rg 107 f3)), (q2, .inl (ca 2, 3000, .inl f2))] ++ [(q4, .inl (ca 2, 20, .inl f))]) H4 ∧ va_D A ([(a0, .inr (14, rg 107 f3)), (q2, .inl (ca 2, 3000, .inl f2))] ++ [(q4, .inl (ca 2, 20, .inl f))]) := ⟨_, gF_nil, hP4, hD4⟩
  have hP4 : va_P D cls [(a0, .inr (14, rg 107 f3)), (q2, .inl (ca 2, 3000, .inl f2)), (q4, .inl (ca 2, 20, .inl f4))] H4 := hP4
  have hD4 : va_D A [(a0, .inr (14, rg 107 f3)), (q2, .inl (ca 2, 3000, .inl f2)), (q4, .inl (ca 2, 20, .inl f4))] := hD4
  refine W.widen (k := 2) (n := 3020) (Nat.le_of_ble_eq_true rfl) (Nat.le_of_ble_eq_true rfl) ?_
  refine gputF hx hb hts inW_14 tyX14 tyX14_ok nmX14 hown hK hP4 hD4 hS4 0 rfl rfl hF3 4 (by decide) k_11_2 rfl hnm rfl rfl rfl d_15_11_23 (L' := [(4, .ref q4), (2, .ref q2)]) rfl (fun f5 H5 locs5 hF5 hm5 hP5 hD5 hS5 => ?_)
  have hM5 := gM.tr hM3 hm5
  have hP5 : va_P D cls [(a0, .inr (14, rg 107 f5)), (q2, .inl (ca 2, 3000, .inl f2)), (q4, .inl (ca 2, 20, .inl f4))] H5 := hP5
  have hD5 : va_D A [(a0, .inr (14, rg 107 f5)), (q2, .inl (ca 2, 3000, .inl f2)), (q4, .inl (ca 2, 20, .inl f4))] := hD5
  clear hP4 hD4 hS4 hF3 hM3 hm5
  refine lv_aload_n hx hb d_15_11_26 rfl (lv_at hl 0 rfl) ?_
  refine lv_iconst (v := 2) hx hb d_15_11_27 (by decide) ?_
  refine gnewq hx hb hts hown k_9_118 (hX.2.1 _ (List.mem_of_getElem? (i := 2) rfl)) hK 5 rfl hP5 hD5 hS5 hA (by decide) (N' := 2) (by decide) (Nat.le_of_ble_eq_true rfl) (Nat.le_of_ble_eq_true rfl) (Nat.le_of_ble_eq_true rfl) d_15_11_28 (fun q6 H6 hP6 hD6 hS6 => ?_)
  obtain ⟨f6, hF6, hP6, hD6⟩ : ∃ f : Nat → Option Nat, gF f [(0, none), (1, none)] ∧ va_P D cls ([(a0, .inr (14, rg 107 f5)), (q2, .inl (ca 2, 3000, .inl f2)), (q4, .inl (ca 2, 20, .inl f4))] ++ [(q6, .inl (ca 5, 2, .inr (.inr (.inr (.inr f)))))]) H6 ∧ va_D A ([(a0, .inr (14, rg 107 f5)), (q2, .inl (ca 2, 3000, .inl f2)), (q4, .inl (ca 2, 20, .inl f4))] ++ [(q6, .inl (ca 5, 2, .inr (.inr (.inr (.inr f)))))]) := ⟨fun _ => none, gF_cons rfl (gF_cons rfl (gF_nil)), hP6, hD6⟩
  have hP6 : va_P D cls [(a0, .inr (14, rg 107 f5)), (q2, .inl (ca 2, 3000, .inl f2)), (q4, .inl (ca 2, 20, .inl f4)), (q6, .inl (ca 5, 2, .inr (.inr (.inr (.inr f6)))))] H6 := hP6
  have hD6 : va_D A [(a0, .inr (14, rg 107 f5)), (q2, .inl (ca 2, 3000, .inl f2)), (q4, .inl (ca 2, 20, .inl f4)), (q6, .inl (ca 5, 2, .inr (.inr (.inr (.inr f6)))))] := hD6
  refine W.widen (k := 3) (n := 3022) (Nat.le_of_ble_eq_true rfl) (Nat.le_of_ble_eq_true rfl) ?_
  refine lv_dup hx hb d_15_11_31 rfl ?_
  refine lv_iconst (v := 0) hx hb d_15_11_32 (by decide) ?_
  refine gnew (L := [(0, .int 0), (1, .int 0)]) (C := RX13) (T := TX13) (N := 81) (ci := 13) hx hb hts inW_13 tyX13 tyX13_ok hown k_9_118 k_9_120 k_1_10 hK hP6 hD6 hS6 hA rfl (Nat.le_of_ble_eq_true rfl) (Nat.le_of_ble_eq_true rfl) d_15_11_33 (gF_cons rfl (gF_cons rfl (gF_nil))) (fun f7 q7 H7 hF7 hP7 hD7 hS7 => ?_)
  have hP7 : va_P D cls [(a0, .inr (14, rg 107 f5)), (q2, .inl (ca 2, 3000, .inl f2)), (q4, .inl (ca 2, 20, .inl f4)), (q6, .inl (ca 5, 2, .inr (.inr (.inr (.inr f6))))), (q7, .inr (13, rg 81 f7))] H7 := hP7
  have hD7 : va_D A [(a0, .inr (14, rg 107 f5)), (q2, .inl (ca 2, 3000, .inl f2)), (q4, .inl (ca 2, 20, .inl f4)), (q6, .inl (ca 5, 2, .inr (.inr (.inr (.inr f6))))), (q7, .inr (13, rg 81 f7))] := hD7
  refine W.widen (k := 4) (n := 3103) (Nat.le_of_ble_eq_true rfl) (Nat.le_of_ble_eq_true rfl) ?_
  refine lv_dup hx hb d_15_11_36 rfl ?_
  have hFc8 := va_free (wc := [(q7, .inr (13, rg 81 f7))]) hD7 hS7 hA [4] rfl
  refine va_callv (va_runIN (As := []) (rest := [.ref q7, .int 0, .ref q6, .ref q6, .ref a0]) ⟨hx, hb, hml, hown, hts⟩ (c_MP_init_0 l D ca ad av H7.size q7 f7 (hF7.sub [] rfl)) ⟨va_cnB 0 hts (gdC k_9_123) rfl rfl rfl (hX.1 _ (List.mem_of_getElem? (i := 11) rfl)) (hts _ k_1_10) (by decide +kernel) ⟨Nat.le_of_ble_eq_true rfl, Nat.le_of_ble_eq_true rfl⟩, rfl, hts _ k_9_122⟩ (gPS hP7 hD7 hK hS7 hA hX [4] (by decide) rfl [.ref q7]) rfl rfl hl.1 rfl (lv_room (Nat.le_of_ble_eq_true rfl)) d_15_11_37 ⟨Nat.le_of_ble_eq_true rfl, Nat.le_of_ble_eq_true rfl⟩) hS7 (fun q _ h => hFc8 q h) hFc8 (fun x8_0 t8 H8 locs8 ht8 hvm8 hw8 hB8 hz8 hk8 hS8 => ?_)
  obtain ⟨hw8_0, hw8_1⟩ := hw8
  obtain ⟨hP8, hD8⟩ := gJoin (wr := [(a0, .inr (14, rg 107 f5)), (q2, .inl (ca 2, 3000, .inl f2)), (q4, .inl (ca 2, 20, .inl f4)), (q6, .inl (ca 5, 2, .inr (.inr (.inr (.inr f6)))))]) (w1 := [(q7, .inr (13, rg 81 x8_0))]) hP7 hD7 [4] [0, 1, 2, 3] rfl rfl (by decide) (by decide) hk8 hFc8 ht8 hB8
  have hF8_0 : gF x8_0 [(0, .int 0), (1, .int 0)] := gF.upd hF7 hw8_0 hw8_1 rfl
  have hP8 : va_P D cls [(a0, .inr (14, rg 107 f5)), (q2, .inl (ca 2, 3000, .inl f2)), (q4, .inl (ca 2, 20, .inl f4)), (q6, .inl (ca 5, 2, .inr (.inr (.inr (.inr f6))))), (q7, .inr (13, rg 81 x8_0))] H8 := hP8
  have hD8 : va_D A [(a0, .inr (14, rg 107 f5)), (q2, .inl (ca 2, 3000, .inl f2)), (q4, .inl (ca 2, 20, .inl f4)), (q6, .inl (ca 5, 2, .inr (.inr (.inr (.inr f6))))), (q7, .inr (13, rg 81 x8_0))] := hD8
  refine W.widen (k := 65) (n := 189728) (Nat.le_of_ble_eq_true rfl) (Nat.le_of_ble_eq_true rfl) ?_
  refine gaast hx hb hK hP8 hD8 hS8 3 5 4 13 (r := (RX13, TX13, 81)) rfl rfl rfl rfl hF6 (k := 0) (by decide) (vinC (by decide)) d_15_11_40 (L' := [(0, some q7), (1, none)]) rfl (fun f9 H9 locs9 hF9 hP9 hD9 hS9 => ?_)
  have hP9 : va_P D cls [(a0, .inr (14, rg 107 f5)), (q2, .inl (ca 2, 3000, .inl f2)), (q4, .inl (ca 2, 20, .inl f4)), (q6, .inl (ca 5, 2, .inr (.inr (.inr (.inr f9))))), (q7, .inr (13, rg 81 x8_0))] H9 := hP9
  have hD9 : va_D A [(a0, .inr (14, rg 107 f5)), (q2, .inl (ca 2, 3000, .inl f2)), (q4, .inl (ca 2, 20, .inl f4)), (q6, .inl (ca 5, 2, .inr (.inr (.inr (.inr f9))))), (q7, .inr (13, rg 81 x8_0))] := hD9
  refine lv_dup hx hb d_15_11_41 rfl ?_
  refine lv_iconst (v := 1) hx hb d_15_11_42 (by decide) ?_
  refine gnew (L := [(0, .int 0), (1, .int 0)]) (C := RX13) (T := TX13) (N := 81) (ci := 13) hx hb hts inW_13 tyX13 tyX13_ok hown k_9_118 k_9_120 k_1_10 hK hP9 hD9 hS9 hA rfl (Nat.le_of_ble_eq_true rfl) (Nat.le_of_ble_eq_true rfl) d_15_11_43 (gF_cons rfl (gF_cons rfl (gF_nil))) (fun f10 q10 H10 hF10 hP10 hD10 hS10 => ?_)
  have hP10 : va_P D cls [(a0, .inr (14, rg 107 f5)), (q2, .inl (ca 2, 3000, .inl f2)), (q4, .inl (ca 2, 20, .inl f4)), (q6, .inl (ca 5, 2, .inr (.inr (.inr (.inr f9))))), (q7, .inr (13, rg 81 x8_0)), (q10, .inr (13, rg 81 f10))] H10 := hP10
  have hD10 : va_D A [(a0, .inr (14, rg 107 f5)), (q2, .inl (ca 2, 3000, .inl f2)), (q4, .inl (ca 2, 20, .inl f4)), (q6, .inl (ca 5, 2, .inr (.inr (.inr (.inr f9))))), (q7, .inr (13, rg 81 x8_0)), (q10, .inr (13, rg 81 f10))] := hD10
  refine W.widen (k := 66) (n := 189809) (Nat.le_of_ble_eq_true rfl) (Nat.le_of_ble_eq_true rfl) ?_
  refine lv_dup hx hb d_15_11_46 rfl ?_
  have hFc11 := va_free (wc := [(q10, .inr (13, rg 81 f10))]) hD10 hS10 hA [5] rfl
  refine va_callv (va_runIN (As := []) (rest := [.ref q10, .int 1, .ref q6, .ref q6, .ref a0]) ⟨hx, hb, hml, hown, hts⟩ (c_MP_init_0 l D ca ad av H10.size q10 f10 (hF10.sub [] rfl)) ⟨va_cnB 0 hts (gdC k_9_123) rfl rfl rfl (hX.1 _ (List.mem_of_getElem? (i := 11) rfl)) (hts _ k_1_10) (by decide +kernel) ⟨Nat.le_of_ble_eq_true rfl, Nat.le_of_ble_eq_true rfl⟩, rfl, hts _ k_9_122⟩ (gPS hP10 hD10 hK hS10 hA hX [5] (by decide) rfl [.ref q10]) rfl rfl hl.1 rfl (lv_room (Nat.le_of_ble_eq_true rfl)) d_15_11_47 ⟨Nat.le_of_ble_eq_true rfl, Nat.le_of_ble_eq_true rfl⟩) hS10 (fun q _ h => hFc11 q h) hFc11 (fun x11_0 t11 H11 locs11 ht11 hvm11 hw11 hB11 hz11 hk11 hS11 => ?_)
  obtain ⟨hw11_0, hw11_1⟩ := hw11
  obtain ⟨hP11, hD11⟩ := gJoin (wr := [(a0, .inr (14, rg 107 f5)), (q2, .inl (ca 2, 3000, .inl f2)), (q4, .inl (ca 2, 20, .inl f4)), (q6, .inl (ca 5, 2, .inr (.inr (.inr (.inr f9))))), (q7, .inr (13, rg 81 x8_0))]) (w1 := [(q10, .inr (13, rg 81 x11_0))]) hP10 hD10 [5] [0, 1, 2, 3, 4] rfl rfl (by decide) (by decide) hk11 hFc11 ht11 hB11
  have hF11_0 : gF x11_0 [(0, .int 0), (1, .int 0)] := gF.upd hF10 hw11_0 hw11_1 rfl
  have hP11 : va_P D cls [(a0, .inr (14, rg 107 f5)), (q2, .inl (ca 2, 3000, .inl f2)), (q4, .inl (ca 2, 20, .inl f4)), (q6, .inl (ca 5, 2, .inr (.inr (.inr (.inr f9))))), (q7, .inr (13, rg 81 x8_0)), (q10, .inr (13, rg 81 x11_0))] H11 := hP11
  have hD11 : va_D A [(a0, .inr (14, rg 107 f5)), (q2, .inl (ca 2, 3000, .inl f2)), (q4, .inl (ca 2, 20, .inl f4)), (q6, .inl (ca 5, 2, .inr (.inr (.inr (.inr f9))))), (q7, .inr (13, rg 81 x8_0)), (q10, .inr (13, rg 81 x11_0))] := hD11
  refine W.widen (k := 127) (n := 376434) (Nat.le_of_ble_eq_true rfl) (Nat.le_of_ble_eq_true rfl) ?_
  refine gaast hx hb hK hP11 hD11 hS11 3 5 5 13 (r := (RX13, TX13, 81)) rfl rfl rfl rfl hF9 (k := 1) (by decide) (vinC (by decide)) d_15_11_50 (L' := [(1, some q10), (0, some q7)]) rfl (fun f12 H12 locs12 hF12 hP12 hD12 hS12 => ?_)
  have hP12 : va_P D cls [(a0, .inr (14, rg 107 f5)), (q2, .inl (ca 2, 3000, .inl f2)), (q4, .inl (ca 2, 20, .inl f4)), (q6, .inl (ca 5, 2, .inr (.inr (.inr (.inr f12))))), (q7, .inr (13, rg 81 x8_0)), (q10, .inr (13, rg 81 x11_0))] H12 := hP12
  have hD12 : va_D A [(a0, .inr (14, rg 107 f5)), (q2, .inl (ca 2, 3000, .inl f2)), (q4, .inl (ca 2, 20, .inl f4)), (q6, .inl (ca 5, 2, .inr (.inr (.inr (.inr f12))))), (q7, .inr (13, rg 81 x8_0)), (q10, .inr (13, rg 81 x11_0))] := hD12
  refine gputF hx hb hts inW_14 tyX14 tyX14_ok nmX14 hown hK hP12 hD12 hS12 0 rfl rfl hF5 5 (by decide) k_11_3 rfl hnm rfl rfl rfl d_15_11_51 (L' := [(5, .ref q6), (4, .ref q4), (2, .ref q2)]) rfl (fun f13 H13 locs13 hF13 hm13 hP13 hD13 hS13 => ?_)
  have hM13 := gM.tr hM5 hm13
  have hP13 : va_P D cls [(a0, .inr (14, rg 107 f13)), (q2, .inl (ca 2, 3000, .inl f2)), (q4, .inl (ca 2, 20, .inl f4)), (q6, .inl (ca 5, 2, .inr (.inr (.inr (.inr f12))))), (q7, .inr (13, rg 81 x8_0)), (q10, .inr (13, rg 81 x11_0))] H13 := hP13
  have hD13 : va_D A [(a0, .inr (14, rg 107 f13)), (q2, .inl (ca 2, 3000, .inl f2)), (q4, .inl (ca 2, 20, .inl f4)), (q6, .inl (ca 5, 2, .inr (.inr (.inr (.inr f12))))), (q7, .inr (13, rg 81 x8_0)), (q10, .inr (13, rg 81 x11_0))] := hD13
  clear hP12 hD12 hS12 hF5 hM5 hm13
  refine lv_aload_n hx hb d_15_11_54 rfl (lv_at hl 0 rfl) ?_
  refine gnew (L := [(0, .int 0), (1, .int 0)]) (C := RX13) (T := TX13) (N := 81) (ci := 13) hx hb hts inW_13 tyX13 tyX13_ok hown k_9_118 k_9_120 k_1_10 hK hP13 hD13 hS13 hA rfl (Nat.le_of_ble_eq_true rfl) (Nat.le_of_ble_eq_true rfl) d_15_11_55 (gF_cons rfl (gF_cons rfl (gF_nil))) (fun f14 q14 H14 hF14 hP14 hD14 hS14 => ?_)
  have hP14 : va_P D cls [(a0, .inr (14, rg 107 f13)), (q2, .inl (ca 2, 3000, .inl f2)), (q4, .inl (ca 2, 20, .inl f4)), (q6, .inl (ca 5, 2, .inr (.inr (.inr (.inr f12))))), (q7, .inr (13, rg 81 x8_0)), (q10, .inr (13, rg 81 x11_0)), (q14, .inr (13, rg 81 f14))] H14 := hP14
  have hD14 : va_D A [(a0, .inr (14, rg 107 f13)), (q2, .inl (ca 2, 3000, .inl f2)), (q4, .inl (ca 2, 20, .inl f4)), (q6, .inl (ca 5, 2, .inr (.inr (.inr (.inr f12))))), (q7, .inr (13, rg 81 x8_0)), (q10, .inr (13, rg 81 x11_0)), (q14, .inr (13, rg 81 f14))] := hD14
  refine W.widen (k := 128) (n := 376515) (Nat.le_of_ble_eq_true rfl) (Nat.le_of_ble_eq_true rfl) ?_
  refine lv_dup hx hb d_15_11_58 rfl ?_
  have hFc15 := va_free (wc := [(q14, .inr (13, rg 81 f14))]) hD14 hS14 hA [6] rfl
  refine va_callv (va_runIN (As := []) (rest := [.ref q14, .ref a0]) ⟨hx, hb, hml, hown, hts⟩ (c_MP_init_0 l D ca ad av H14.size q14 f14 (hF14.sub [] rfl)) ⟨va_cnB 0 hts (gdC k_9_123) rfl rfl rfl (hX.1 _ (List.mem_of_getElem? (i := 11) rfl)) (hts _ k_1_10) (by decide +kernel) ⟨Nat.le_of_ble_eq_true rfl, Nat.le_of_ble_eq_true rfl⟩, rfl, hts _ k_9_122⟩ (gPS hP14 hD14 hK hS14 hA hX [6] (by decide) rfl [.ref q14]) rfl rfl hl.1 rfl (lv_room (Nat.le_of_ble_eq_true rfl)) d_15_11_59 ⟨Nat.le_of_ble_eq_true rfl, Nat.le_of_ble_eq_true rfl⟩) hS14 (fun q _ h => hFc15 q h) hFc15 (fun x15_0 t15 H15 locs15 ht15 hvm15 hw15 hB15 hz15 hk15 hS15 => ?_)
  obtain ⟨hw15_0, hw15_1⟩ := hw15
  obtain ⟨hP15, hD15⟩ := gJoin (wr := [(a0, .inr (14, rg 107 f13)), (q2, .inl (ca 2, 3000, .inl f2)), (q4, .inl (ca 2, 20, .inl f4)), (q6, .inl (ca 5, 2, .inr (.inr (.inr (.inr f12))))), (q7, .inr (13, rg 81 x8_0)), (q10, .inr (13, rg 81 x11_0))]) (w1 := [(q14, .inr (13, rg 81 x15_0))]) hP14 hD14 [6] [0, 1, 2, 3, 4, 5] rfl rfl (by decide) (by decide) hk15 hFc15 ht15 hB15
  have hF15_0 : gF x15_0 [(0, .int 0), (1, .int 0)] := gF.upd hF14 hw15_0 hw15_1 rfl
  have hP15 : va_P D cls [(a0, .inr (14, rg 107 f13)), (q2, .inl (ca 2, 3000, .inl f2)), (q4, .inl (ca 2, 20, .inl f4)), (q6, .inl (ca 5, 2, .inr (.inr (.inr (.inr f12))))), (q7, .inr (13, rg 81 x8_0)), (q10, .inr (13, rg 81 x11_0)), (q14, .inr (13, rg 81 x15_0))] H15 := hP15
  have hD15 : va_D A [(a0, .inr (14, rg 107 f13)), (q2, .inl (ca 2, 3000, .inl f2)), (q4, .inl (ca 2, 20, .inl f4)), (q6, .inl (ca 5, 2, .inr (.inr (.inr (.inr f12))))), (q7, .inr (13, rg 81 x8_0)), (q10, .inr (13, rg 81 x11_0)), (q14, .inr (13, rg 81 x15_0))] := hD15
  refine W.widen (k := 189) (n := 563140) (Nat.le_of_ble_eq_true rfl) (Nat.le_of_ble_eq_true rfl) ?_
  refine gput hx hb hts inW_14 tyX14 tyX14_ok nmX14 hown hK hP15 hD15 hS15 0 rfl rfl hF13 6 (by decide) k_11_4 rfl rfl rfl d_15_11_62 (L' := [(6, .ref q14), (5, .ref q6), (4, .ref q4), (2, .ref q2)]) rfl (fun f16 H16 locs16 hF16 hm16 hP16 hD16 hS16 => ?_)
  have hM16 := gM.tr hM13 hm16
  have hP16 : va_P D cls [(a0, .inr (14, rg 107 f16)), (q2, .inl (ca 2, 3000, .inl f2)), (q4, .inl (ca 2, 20, .inl f4)), (q6, .inl (ca 5, 2, .inr (.inr (.inr (.inr f12))))), (q7, .inr (13, rg 81 x8_0)), (q10, .inr (13, rg 81 x11_0)), (q14, .inr (13, rg 81 x15_0))] H16 := hP16
  have hD16 : va_D A [(a0, .inr (14, rg 107 f16)), (q2, .inl (ca 2, 3000, .inl f2)), (q4, .inl (ca 2, 20, .inl f4)), (q6, .inl (ca 5, 2, .inr (.inr (.inr (.inr f12))))), (q7, .inr (13, rg 81 x8_0)), (q10, .inr (13, rg 81 x11_0)), (q14, .inr (13, rg 81 x15_0))] := hD16
  clear hP15 hD15 hS15 hF13 hM13 hm16
  refine lv_aload_n hx hb d_15_11_65 rfl (lv_at hl 0 rfl) ?_
  refine lv_sipush (v := 3001) hx hb d_15_11_66 (by decide) ?_
  refine gnewa (atype := .int) hx hb hts (ty := .int) rfl k_1_57 hK 0 rfl (fun _ _ => gu_int) hP16 hD16 hS16 hA (a0 := (3001, .inl (fun _ => 0))) (fun _ => rfl) (by decide) (N' := 3001) (by decide) (Nat.le_of_ble_eq_true rfl) (Nat.le_of_ble_eq_true rfl) (Nat.le_of_ble_eq_true rfl) d_15_11_69 (fun q17 H17 hP17 hD17 hS17 => ?_)
  obtain ⟨f17, hF17, hP17, hD17⟩ : ∃ f : Nat → Int32, gF f [] ∧ va_P D cls ([(a0, .inr (14, rg 107 f16)), (q2, .inl (ca 2, 3000, .inl f2)), (q4, .inl (ca 2, 20, .inl f4)), (q6, .inl (ca 5, 2, .inr (.inr (.inr (.inr f12))))), (q7, .inr (13, rg 81 x8_0)), (q10, .inr (13, rg 81 x11_0)), (q14, .inr (13, rg 81 x15_0))] ++ [(q17, .inl (ca 0, 3001, .inl f))]) H17 ∧ va_D A ([(a0, .inr (14, rg 107 f16)), (q2, .inl (ca 2, 3000, .inl f2)), (q4, .inl (ca 2, 20, .inl f4)), (q6, .inl (ca 5, 2, .inr (.inr (.inr (.inr f12))))), (q7, .inr (13, rg 81 x8_0)), (q10, .inr (13, rg 81 x11_0)), (q14, .inr (13, rg 81 x15_0))] ++ [(q17, .inl (ca 0, 3001, .inl f))]) := ⟨_, gF_nil, hP17, hD17⟩
  have hP17 : va_P D cls [(a0, .inr (14, rg 107 f16)), (q2, .inl (ca 2, 3000, .inl f2)), (q4, .inl (ca 2, 20, .inl f4)), (q6, .inl (ca 5, 2, .inr (.inr (.inr (.inr f12))))), (q7, .inr (13, rg 81 x8_0)), (q10, .inr (13, rg 81 x11_0)), (q14, .inr (13, rg 81 x15_0)), (q17, .inl (ca 0, 3001, .inl f17))] H17 := hP17
  have hD17 : va_D A [(a0, .inr (14, rg 107 f16)), (q2, .inl (ca 2, 3000, .inl f2)), (q4, .inl (ca 2, 20, .inl f4)), (q6, .inl (ca 5, 2, .inr (.inr (.inr (.inr f12))))), (q7, .inr (13, rg 81 x8_0)), (q10, .inr (13, rg 81 x11_0)), (q14, .inr (13, rg 81 x15_0)), (q17, .inl (ca 0, 3001, .inl f17))] := hD17
  refine W.widen (k := 190) (n := 566141) (Nat.le_of_ble_eq_true rfl) (Nat.le_of_ble_eq_true rfl) ?_
  refine gputF hx hb hts inW_14 tyX14 tyX14_ok nmX14 hown hK hP17 hD17 hS17 0 rfl rfl hF16 7 (by decide) k_11_5 rfl hnm rfl rfl rfl d_15_11_71 (L' := [(7, .ref q17), (6, .ref q14), (5, .ref q6), (4, .ref q4), (2, .ref q2)]) rfl (fun f18 H18 locs18 hF18 hm18 hP18 hD18 hS18 => ?_)
  have hM18 := gM.tr hM16 hm18
  have hP18 : va_P D cls [(a0, .inr (14, rg 107 f18)), (q2, .inl (ca 2, 3000, .inl f2)), (q4, .inl (ca 2, 20, .inl f4)), (q6, .inl (ca 5, 2, .inr (.inr (.inr (.inr f12))))), (q7, .inr (13, rg 81 x8_0)), (q10, .inr (13, rg 81 x11_0)), (q14, .inr (13, rg 81 x15_0)), (q17, .inl (ca 0, 3001, .inl f17))] H18 := hP18
  have hD18 : va_D A [(a0, .inr (14, rg 107 f18)), (q2, .inl (ca 2, 3000, .inl f2)), (q4, .inl (ca 2, 20, .inl f4)), (q6, .inl (ca 5, 2, .inr (.inr (.inr (.inr f12))))), (q7, .inr (13, rg 81 x8_0)), (q10, .inr (13, rg 81 x11_0)), (q14, .inr (13, rg 81 x15_0)), (q17, .inl (ca 0, 3001, .inl f17))] := hD18
  clear hP17 hD17 hS17 hF16 hM16 hm18
  refine lv_aload_n hx hb d_15_11_74 rfl (lv_at hl 0 rfl) ?_
  refine lv_sipush (v := 3001) hx hb d_15_11_75 (by decide) ?_
  refine gnewa (atype := .int) hx hb hts (ty := .int) rfl k_1_57 hK 0 rfl (fun _ _ => gu_int) hP18 hD18 hS18 hA (a0 := (3001, .inl (fun _ => 0))) (fun _ => rfl) (by decide) (N' := 3001) (by decide) (Nat.le_of_ble_eq_true rfl) (Nat.le_of_ble_eq_true rfl) (Nat.le_of_ble_eq_true rfl) d_15_11_78 (fun q19 H19 hP19 hD19 hS19 => ?_)
  obtain ⟨f19, hF19, hP19, hD19⟩ : ∃ f : Nat → Int32, gF f [] ∧ va_P D cls ([(a0, .inr (14, rg 107 f18)), (q2, .inl (ca 2, 3000, .inl f2)), (q4, .inl (ca 2, 20, .inl f4)), (q6, .inl (ca 5, 2, .inr (.inr (.inr (.inr f12))))), (q7, .inr (13, rg 81 x8_0)), (q10, .inr (13, rg 81 x11_0)), (q14, .inr (13, rg 81 x15_0)), (q17, .inl (ca 0, 3001, .inl f17))] ++ [(q19, .inl (ca 0, 3001, .inl f))]) H19 ∧ va_D A ([(a0, .inr (14, rg 107 f18)), (q2, .inl (ca 2, 3000, .inl f2)), (q4, .inl (ca 2, 20, .inl f4)), (q6, .inl (ca 5, 2, .inr (.inr (.inr (.inr f12))))), (q7, .inr (13, rg 81 x8_0)), (q10, .inr (13, rg 81 x11_0)), (q14, .inr (13, rg 81 x15_0)), (q17, .inl (ca 0, 3001, .inl f17))] ++ [(q19, .inl (ca 0, 3001, .inl f))]) := ⟨_, gF_nil, hP19, hD19⟩
  have hP19 : va_P D cls [(a0, .inr (14, rg 107 f18)), (q2, .inl (ca 2, 3000, .inl f2)), (q4, .inl (ca 2, 20, .inl f4)), (q6, .inl (ca 5, 2, .inr (.inr (.inr (.inr f12))))), (q7, .inr (13, rg 81 x8_0)), (q10, .inr (13, rg 81 x11_0)), (q14, .inr (13, rg 81 x15_0)), (q17, .inl (ca 0, 3001, .inl f17)), (q19, .inl (ca 0, 3001, .inl f19))] H19 := hP19
  have hD19 : va_D A [(a0, .inr (14, rg 107 f18)), (q2, .inl (ca 2, 3000, .inl f2)), (q4, .inl (ca 2, 20, .inl f4)), (q6, .inl (ca 5, 2, .inr (.inr (.inr (.inr f12))))), (q7, .inr (13, rg 81 x8_0)), (q10, .inr (13, rg 81 x11_0)), (q14, .inr (13, rg 81 x15_0)), (q17, .inl (ca 0, 3001, .inl f17)), (q19, .inl (ca 0, 3001, .inl f19))] := hD19
  refine W.widen (k := 191) (n := 569142) (Nat.le_of_ble_eq_true rfl) (Nat.le_of_ble_eq_true rfl) ?_
  refine gputF hx hb hts inW_14 tyX14 tyX14_ok nmX14 hown hK hP19 hD19 hS19 0 rfl rfl hF18 8 (by decide) k_11_6 rfl hnm rfl rfl rfl d_15_11_80 (L' := [(8, .ref q19), (7, .ref q17), (6, .ref q14), (5, .ref q6), (4, .ref q4), (2, .ref q2)]) rfl (fun f20 H20 locs20 hF20 hm20 hP20 hD20 hS20 => ?_)
  have hM20 := gM.tr hM18 hm20
  have hP20 : va_P D cls [(a0, .inr (14, rg 107 f20)), (q2, .inl (ca 2, 3000, .inl f2)), (q4, .inl (ca 2, 20, .inl f4)), (q6, .inl (ca 5, 2, .inr (.inr (.inr (.inr f12))))), (q7, .inr (13, rg 81 x8_0)), (q10, .inr (13, rg 81 x11_0)), (q14, .inr (13, rg 81 x15_0)), (q17, .inl (ca 0, 3001, .inl f17)), (q19, .inl (ca 0, 3001, .inl f19))] H20 := hP20
  have hD20 : va_D A [(a0, .inr (14, rg 107 f20)), (q2, .inl (ca 2, 3000, .inl f2)), (q4, .inl (ca 2, 20, .inl f4)), (q6, .inl (ca 5, 2, .inr (.inr (.inr (.inr f12))))), (q7, .inr (13, rg 81 x8_0)), (q10, .inr (13, rg 81 x11_0)), (q14, .inr (13, rg 81 x15_0)), (q17, .inl (ca 0, 3001, .inl f17)), (q19, .inl (ca 0, 3001, .inl f19))] := hD20
  clear hP19 hD19 hS19 hF18 hM18 hm20
  refine lv_aload_n hx hb d_15_11_83 rfl (lv_at hl 0 rfl) ?_
  refine lv_sipush (v := 3001) hx hb d_15_11_84 (by decide) ?_
  refine gnewaX (atype := .int) hx hb hts k_1_57 hP20 hS20 (by decide) (N' := 3001) (by decide) (Nat.le_of_ble_eq_true rfl) (Nat.le_of_ble_eq_true rfl) (Nat.le_of_ble_eq_true rfl) d_15_11_87 (fun q21 H21 hP21 hS21 => ?_)
  clear hP20 hS20
  refine W.widen (k := 192) (n := 572143) (Nat.le_of_ble_eq_true rfl) (Nat.le_of_ble_eq_true rfl) ?_
  refine gputFX hx hb hts inW_14 tyX14 tyX14_ok nmX14 hown hK hP21 hD20 hS21 0 rfl rfl hF20 9 (by decide) k_11_7 rfl hnm rfl rfl rfl d_15_11_89 (L' := [(8, .ref q19), (7, .ref q17), (6, .ref q14), (5, .ref q6), (4, .ref q4), (2, .ref q2)]) rfl (fun f22 H22 locs22 hF22 hm22 hP22 hD22 hS22 => ?_)
  have hM22 := gM.tr hM20 hm22
  have hP22 : va_P D cls [(a0, .inr (14, rg 107 f22)), (q2, .inl (ca 2, 3000, .inl f2)), (q4, .inl (ca 2, 20, .inl f4)), (q6, .inl (ca 5, 2, .inr (.inr (.inr (.inr f12))))), (q7, .inr (13, rg 81 x8_0)), (q10, .inr (13, rg 81 x11_0)), (q14, .inr (13, rg 81 x15_0)), (q17, .inl (ca 0, 3001, .inl f17)), (q19, .inl (ca 0, 3001, .inl f19))] H22 := hP22
  have hD22 : va_D A [(a0, .inr (14, rg 107 f22)), (q2, .inl (ca 2, 3000, .inl f2)), (q4, .inl (ca 2, 20, .inl f4)), (q6, .inl (ca 5, 2, .inr (.inr (.inr (.inr f12))))), (q7, .inr (13, rg 81 x8_0)), (q10, .inr (13, rg 81 x11_0)), (q14, .inr (13, rg 81 x15_0)), (q17, .inl (ca 0, 3001, .inl f17)), (q19, .inl (ca 0, 3001, .inl f19))] := hD22
  clear hP21 hD20 hS21 hF20 hM20 hm22
  refine lv_aload_n hx hb d_15_11_92 rfl (lv_at hl 0 rfl) ?_
  refine lv_sipush (v := 3001) hx hb d_15_11_93 (by decide) ?_
  refine gnewaX (atype := .int) hx hb hts k_1_57 hP22 hS22 (by decide) (N' := 3001) (by decide) (Nat.le_of_ble_eq_true rfl) (Nat.le_of_ble_eq_true rfl) (Nat.le_of_ble_eq_true rfl) d_15_11_96 (fun q23 H23 hP23 hS23 => ?_)
  clear hP22 hS22
  refine W.widen (k := 193) (n := 575144) (Nat.le_of_ble_eq_true rfl) (Nat.le_of_ble_eq_true rfl) ?_
  refine gputFX hx hb hts inW_14 tyX14 tyX14_ok nmX14 hown hK hP23 hD22 hS23 0 rfl rfl hF22 10 (by decide) k_11_8 rfl hnm rfl rfl rfl d_15_11_98 (L' := [(8, .ref q19), (7, .ref q17), (6, .ref q14), (5, .ref q6), (4, .ref q4), (2, .ref q2)]) rfl (fun f24 H24 locs24 hF24 hm24 hP24 hD24 hS24 => ?_)
  have hM24 := gM.tr hM22 hm24
  have hP24 : va_P D cls [(a0, .inr (14, rg 107 f24)), (q2, .inl (ca 2, 3000, .inl f2)), (q4, .inl (ca 2, 20, .inl f4)), (q6, .inl (ca 5, 2, .inr (.inr (.inr (.inr f12))))), (q7, .inr (13, rg 81 x8_0)), (q10, .inr (13, rg 81 x11_0)), (q14, .inr (13, rg 81 x15_0)), (q17, .inl (ca 0, 3001, .inl f17)), (q19, .inl (ca 0, 3001, .inl f19))] H24 := hP24
  have hD24 : va_D A [(a0, .inr (14, rg 107 f24)), (q2, .inl (ca 2, 3000, .inl f2)), (q4, .inl (ca 2, 20, .inl f4)), (q6, .inl (ca 5, 2, .inr (.inr (.inr (.inr f12))))), (q7, .inr (13, rg 81 x8_0)), (q10, .inr (13, rg 81 x11_0)), (q14, .inr (13, rg 81 x15_0)), (q17, .inl (ca 0, 3001, .inl f17)), (q19, .inl (ca 0, 3001, .inl f19))] := hD24
  clear hP23 hD22 hS23 hF22 hM22 hm24
  refine lv_aload_n hx hb d_15_11_101 rfl (lv_at hl 0 rfl) ?_
  refine lv_sipush (v := 3001) hx hb d_15_11_102 (by decide) ?_
  refine gnewaX (atype := .long) hx hb hts k_1_105 hP24 hS24 (by decide) (N' := 3001) (by decide) (Nat.le_of_ble_eq_true rfl) (Nat.le_of_ble_eq_true rfl) (Nat.le_of_ble_eq_true rfl) d_15_11_105 (fun q25 H25 hP25 hS25 => ?_)
  clear hP24 hS24
  refine W.widen (k := 194) (n := 578145) (Nat.le_of_ble_eq_true rfl) (Nat.le_of_ble_eq_true rfl) ?_
  refine gputFX hx hb hts inW_14 tyX14 tyX14_ok nmX14 hown hK hP25 hD24 hS25 0 rfl rfl hF24 11 (by decide) k_11_9 rfl hnm rfl rfl rfl d_15_11_107 (L' := [(8, .ref q19), (7, .ref q17), (6, .ref q14), (5, .ref q6), (4, .ref q4), (2, .ref q2)]) rfl (fun f26 H26 locs26 hF26 hm26 hP26 hD26 hS26 => ?_)
  have hM26 := gM.tr hM24 hm26
  have hP26 : va_P D cls [(a0, .inr (14, rg 107 f26)), (q2, .inl (ca 2, 3000, .inl f2)), (q4, .inl (ca 2, 20, .inl f4)), (q6, .inl (ca 5, 2, .inr (.inr (.inr (.inr f12))))), (q7, .inr (13, rg 81 x8_0)), (q10, .inr (13, rg 81 x11_0)), (q14, .inr (13, rg 81 x15_0)), (q17, .inl (ca 0, 3001, .inl f17)), (q19, .inl (ca 0, 3001, .inl f19))] H26 := hP26
  have hD26 : va_D A [(a0, .inr (14, rg 107 f26)), (q2, .inl (ca 2, 3000, .inl f2)), (q4, .inl (ca 2, 20, .inl f4)), (q6, .inl (ca 5, 2, .inr (.inr (.inr (.inr f12))))), (q7, .inr (13, rg 81 x8_0)), (q10, .inr (13, rg 81 x11_0)), (q14, .inr (13, rg 81 x15_0)), (q17, .inl (ca 0, 3001, .inl f17)), (q19, .inl (ca 0, 3001, .inl f19))] := hD26
  clear hP25 hD24 hS25 hF24 hM24 hm26
  refine lv_aload_n hx hb d_15_11_110 rfl (lv_at hl 0 rfl) ?_
  refine lv_iconst (v := 4) hx hb d_15_11_111 (by decide) ?_
  refine gnewa (atype := .long) hx hb hts (ty := .long) rfl k_1_105 hK 1 rfl (fun _ _ => gu_long) hP26 hD26 hS26 hA (a0 := (4, .inr (.inl (fun _ => 0)))) (fun _ => rfl) (by decide) (N' := 4) (by decide) (Nat.le_of_ble_eq_true rfl) (Nat.le_of_ble_eq_true rfl) (Nat.le_of_ble_eq_true rfl) d_15_11_112 (fun q27 H27 hP27 hD27 hS27 => ?_)
  obtain ⟨f27, hF27, hP27, hD27⟩ : ∃ f : Nat → Int64, gF f [] ∧ va_P D cls ([(a0, .inr (14, rg 107 f26)), (q2, .inl (ca 2, 3000, .inl f2)), (q4, .inl (ca 2, 20, .inl f4)), (q6, .inl (ca 5, 2, .inr (.inr (.inr (.inr f12))))), (q7, .inr (13, rg 81 x8_0)), (q10, .inr (13, rg 81 x11_0)), (q14, .inr (13, rg 81 x15_0)), (q17, .inl (ca 0, 3001, .inl f17)), (q19, .inl (ca 0, 3001, .inl f19))] ++ [(q27, .inl (ca 1, 4, .inr (.inl f)))]) H27 ∧ va_D A ([(a0, .inr (14, rg 107 f26)), (q2, .inl (ca 2, 3000, .inl f2)), (q4, .inl (ca 2, 20, .inl f4)), (q6, .inl (ca 5, 2, .inr (.inr (.inr (.inr f12))))), (q7, .inr (13, rg 81 x8_0)), (q10, .inr (13, rg 81 x11_0)), (q14, .inr (13, rg 81 x15_0)), (q17, .inl (ca 0, 3001, .inl f17)), (q19, .inl (ca 0, 3001, .inl f19))] ++ [(q27, .inl (ca 1, 4, .inr (.inl f)))]) := ⟨_, gF_nil, hP27, hD27⟩
  have hP27 : va_P D cls [(a0, .inr (14, rg 107 f26)), (q2, .inl (ca 2, 3000, .inl f2)), (q4, .inl (ca 2, 20, .inl f4)), (q6, .inl (ca 5, 2, .inr (.inr (.inr (.inr f12))))), (q7, .inr (13, rg 81 x8_0)), (q10, .inr (13, rg 81 x11_0)), (q14, .inr (13, rg 81 x15_0)), (q17, .inl (ca 0, 3001, .inl f17)), (q19, .inl (ca 0, 3001, .inl f19)), (q27, .inl (ca 1, 4, .inr (.inl f27)))] H27 := hP27
  have hD27 : va_D A [(a0, .inr (14, rg 107 f26)), (q2, .inl (ca 2, 3000, .inl f2)), (q4, .inl (ca 2, 20, .inl f4)), (q6, .inl (ca 5, 2, .inr (.inr (.inr (.inr f12))))), (q7, .inr (13, rg 81 x8_0)), (q10, .inr (13, rg 81 x11_0)), (q14, .inr (13, rg 81 x15_0)), (q17, .inl (ca 0, 3001, .inl f17)), (q19, .inl (ca 0, 3001, .inl f19)), (q27, .inl (ca 1, 4, .inr (.inl f27)))] := hD27
  refine W.widen (k := 195) (n := 578149) (Nat.le_of_ble_eq_true rfl) (Nat.le_of_ble_eq_true rfl) ?_
  refine lv_dup hx hb d_15_11_114 rfl ?_
  refine lv_iconst (v := 0) hx hb d_15_11_115 (by decide) ?_
  refine va_ldcS hx hb hown (hX.2.2.2.2.1 1 _ rfl).1 d_15_11_116 ?_
  have hFc28 := va_free (wc := []) hD27 hS27 hA [] rfl
  refine va_calll (va_runS (As := [.ref (ad 1)]) (rest := [.int 0, .ref q27, .ref q27, .ref a0]) ⟨hx, hb, hml, hown, hts⟩ (c_M_code_0 l D ca ad av H27.size  ) (va_cwS 1 hts (gdS k_10_191 k_10_192 k_1_9 k_10_193) rfl rfl rfl (by decide +kernel) ⟨Nat.le_of_ble_eq_true rfl, Nat.le_of_ble_eq_true rfl⟩) (gPS hP27 hD27 hK hS27 hA hX [] (by decide) rfl [.ref (ad 1)]) rfl rfl hl.1 rfl (lv_room (Nat.le_of_ble_eq_true rfl)) d_15_11_118 ⟨Nat.le_of_ble_eq_true rfl, Nat.le_of_ble_eq_true rfl⟩) hS27 (fun q _ h => hFc28 q h) hFc28 (fun r28 u28 t28 H28 locs28 ht28 hvm28 hw28 hB28 hz28 hk28 hS28 => ?_)
  have hr28 := hw28
  obtain ⟨hP28, hD28⟩ := gJoin (wr := [(a0, .inr (14, rg 107 f26)), (q2, .inl (ca 2, 3000, .inl f2)), (q4, .inl (ca 2, 20, .inl f4)), (q6, .inl (ca 5, 2, .inr (.inr (.inr (.inr f12))))), (q7, .inr (13, rg 81 x8_0)), (q10, .inr (13, rg 81 x11_0)), (q14, .inr (13, rg 81 x15_0)), (q17, .inl (ca 0, 3001, .inl f17)), (q19, .inl (ca 0, 3001, .inl f19)), (q27, .inl (ca 1, 4, .inr (.inl f27)))]) (w1 := []) hP27 hD27 [] [0, 1, 2, 3, 4, 5, 6, 7, 8, 9] rfl rfl (by decide) (by decide) hk28 hFc28 ht28 hB28
  have hP28 : va_P D cls [(a0, .inr (14, rg 107 f26)), (q2, .inl (ca 2, 3000, .inl f2)), (q4, .inl (ca 2, 20, .inl f4)), (q6, .inl (ca 5, 2, .inr (.inr (.inr (.inr f12))))), (q7, .inr (13, rg 81 x8_0)), (q10, .inr (13, rg 81 x11_0)), (q14, .inr (13, rg 81 x15_0)), (q17, .inl (ca 0, 3001, .inl f17)), (q19, .inl (ca 0, 3001, .inl f19)), (q27, .inl (ca 1, 4, .inr (.inl f27)))] H28 := hP28
  have hD28 : va_D A [(a0, .inr (14, rg 107 f26)), (q2, .inl (ca 2, 3000, .inl f2)), (q4, .inl (ca 2, 20, .inl f4)), (q6, .inl (ca 5, 2, .inr (.inr (.inr (.inr f12))))), (q7, .inr (13, rg 81 x8_0)), (q10, .inr (13, rg 81 x11_0)), (q14, .inr (13, rg 81 x15_0)), (q17, .inl (ca 0, 3001, .inl f17)), (q19, .inl (ca 0, 3001, .inl f19)), (q27, .inl (ca 1, 4, .inr (.inl f27)))] := hD28
  refine W.widen (k := 195) (n := 578149) (Nat.le_of_ble_eq_true rfl) (Nat.le_of_ble_eq_true rfl) ?_
  subst hr28
  refine glastX hx hb hK hP28 hD28 hS28 9 1 rfl rfl (vinC (by decide)) d_15_11_121 (fun f29 H29 locs29 hP29 hD29 hS29 => ?_)
  have hF29 : gF f29 [] := gF_nil
  have hP29 : va_P D cls [(a0, .inr (14, rg 107 f26)), (q2, .inl (ca 2, 3000, .inl f2)), (q4, .inl (ca 2, 20, .inl f4)), (q6, .inl (ca 5, 2, .inr (.inr (.inr (.inr f12))))), (q7, .inr (13, rg 81 x8_0)), (q10, .inr (13, rg 81 x11_0)), (q14, .inr (13, rg 81 x15_0)), (q17, .inl (ca 0, 3001, .inl f17)), (q19, .inl (ca 0, 3001, .inl f19)), (q27, .inl (ca 1, 4, .inr (.inl f29)))] H29 := hP29
  have hD29 : va_D A [(a0, .inr (14, rg 107 f26)), (q2, .inl (ca 2, 3000, .inl f2)), (q4, .inl (ca 2, 20, .inl f4)), (q6, .inl (ca 5, 2, .inr (.inr (.inr (.inr f12))))), (q7, .inr (13, rg 81 x8_0)), (q10, .inr (13, rg 81 x11_0)), (q14, .inr (13, rg 81 x15_0)), (q17, .inl (ca 0, 3001, .inl f17)), (q19, .inl (ca 0, 3001, .inl f19)), (q27, .inl (ca 1, 4, .inr (.inl f29)))] := hD29
  clear hP28 hD28 hS28 hF27
  refine lv_dup hx hb d_15_11_122 rfl ?_
  refine lv_iconst (v := 1) hx hb d_15_11_123 (by decide) ?_
  refine va_ldcS hx hb hown (hX.2.2.2.2.1 2 _ rfl).1 d_15_11_124 ?_
  have hFc30 := va_free (wc := []) hD29 hS29 hA [] rfl
  refine va_calll (va_runS (As := [.ref (ad 2)]) (rest := [.int 1, .ref q27, .ref q27, .ref a0]) ⟨hx, hb, hml, hown, hts⟩ (c_M_code_1 l D ca ad av H29.size  ) (va_cwS 1 hts (gdS k_10_191 k_10_192 k_1_9 k_10_193) rfl rfl rfl (by decide +kernel) ⟨Nat.le_of_ble_eq_true rfl, Nat.le_of_ble_eq_true rfl⟩) (gPS hP29 hD29 hK hS29 hA hX [] (by decide) rfl [.ref (ad 2)]) rfl rfl hl.1 rfl (lv_room (Nat.le_of_ble_eq_true rfl)) d_15_11_126 ⟨Nat.le_of_ble_eq_true rfl, Nat.le_of_ble_eq_true rfl⟩) hS29 (fun q _ h => hFc30 q h) hFc30 (fun r30 u30 t30 H30 locs30 ht30 hvm30 hw30 hB30 hz30 hk30 hS30 => ?_)
  have hr30 := hw30
  obtain ⟨hP30, hD30⟩ := gJoin (wr := [(a0, .inr (14, rg 107 f26)), (q2, .inl (ca 2, 3000, .inl f2)), (q4, .inl (ca 2, 20, .inl f4)), (q6, .inl (ca 5, 2, .inr (.inr (.inr (.inr f12))))), (q7, .inr (13, rg 81 x8_0)), (q10, .inr (13, rg 81 x11_0)), (q14, .inr (13, rg 81 x15_0)), (q17, .inl (ca 0, 3001, .inl f17)), (q19, .inl (ca 0, 3001, .inl f19)), (q27, .inl (ca 1, 4, .inr (.inl f29)))]) (w1 := []) hP29 hD29 [] [0, 1, 2, 3, 4, 5, 6, 7, 8, 9] rfl rfl (by decide) (by decide) hk30 hFc30 ht30 hB30
  have hP30 : va_P D cls [(a0, .inr (14, rg 107 f26)), (q2, .inl (ca 2, 3000, .inl f2)), (q4, .inl (ca 2, 20, .inl f4)), (q6, .inl (ca 5, 2, .inr (.inr (.inr (.inr f12))))), (q7, .inr (13, rg 81 x8_0)), (q10, .inr (13, rg 81 x11_0)), (q14, .inr (13, rg 81 x15_0)), (q17, .inl (ca 0, 3001, .inl f17)), (q19, .inl (ca 0, 3001, .inl f19)), (q27, .inl (ca 1, 4, .inr (.inl f29)))] H30 := hP30
  have hD30 : va_D A [(a0, .inr (14, rg 107 f26)), (q2, .inl (ca 2, 3000, .inl f2)), (q4, .inl (ca 2, 20, .inl f4)), (q6, .inl (ca 5, 2, .inr (.inr (.inr (.inr f12))))), (q7, .inr (13, rg 81 x8_0)), (q10, .inr (13, rg 81 x11_0)), (q14, .inr (13, rg 81 x15_0)), (q17, .inl (ca 0, 3001, .inl f17)), (q19, .inl (ca 0, 3001, .inl f19)), (q27, .inl (ca 1, 4, .inr (.inl f29)))] := hD30
  refine W.widen (k := 195) (n := 578149) (Nat.le_of_ble_eq_true rfl) (Nat.le_of_ble_eq_true rfl) ?_
  subst hr30
  refine glastX hx hb hK hP30 hD30 hS30 9 1 rfl rfl (vinC (by decide)) d_15_11_129 (fun f31 H31 locs31 hP31 hD31 hS31 => ?_)
  have hF31 : gF f31 [] := gF_nil
  have hP31 : va_P D cls [(a0, .inr (14, rg 107 f26)), (q2, .inl (ca 2, 3000, .inl f2)), (q4, .inl (ca 2, 20, .inl f4)), (q6, .inl (ca 5, 2, .inr (.inr (.inr (.inr f12))))), (q7, .inr (13, rg 81 x8_0)), (q10, .inr (13, rg 81 x11_0)), (q14, .inr (13, rg 81 x15_0)), (q17, .inl (ca 0, 3001, .inl f17)), (q19, .inl (ca 0, 3001, .inl f19)), (q27, .inl (ca 1, 4, .inr (.inl f31)))] H31 := hP31
  have hD31 : va_D A [(a0, .inr (14, rg 107 f26)), (q2, .inl (ca 2, 3000, .inl f2)), (q4, .inl (ca 2, 20, .inl f4)), (q6, .inl (ca 5, 2, .inr (.inr (.inr (.inr f12))))), (q7, .inr (13, rg 81 x8_0)), (q10, .inr (13, rg 81 x11_0)), (q14, .inr (13, rg 81 x15_0)), (q17, .inl (ca 0, 3001, .inl f17)), (q19, .inl (ca 0, 3001, .inl f19)), (q27, .inl (ca 1, 4, .inr (.inl f31)))] := hD31
  clear hP30 hD30 hS30 hF29
  refine lv_dup hx hb d_15_11_130 rfl ?_
  refine lv_iconst (v := 2) hx hb d_15_11_131 (by decide) ?_
  refine va_ldcS hx hb hown (hX.2.2.2.2.1 3 _ rfl).1 d_15_11_132 ?_
  have hFc32 := va_free (wc := []) hD31 hS31 hA [] rfl
  refine va_calll (va_runS (As := [.ref (ad 3)]) (rest := [.int 2, .ref q27, .ref q27, .ref a0]) ⟨hx, hb, hml, hown, hts⟩ (c_M_code_2 l D ca ad av H31.size  ) (va_cwS 1 hts (gdS k_10_191 k_10_192 k_1_9 k_10_193) rfl rfl rfl (by decide +kernel) ⟨Nat.le_of_ble_eq_true rfl, Nat.le_of_ble_eq_true rfl⟩) (gPS hP31 hD31 hK hS31 hA hX [] (by decide) rfl [.ref (ad 3)]) rfl rfl hl.1 rfl (lv_room (Nat.le_of_ble_eq_true rfl)) d_15_11_134 ⟨Nat.le_of_ble_eq_true rfl, Nat.le_of_ble_eq_true rfl⟩) hS31 (fun q _ h => hFc32 q h) hFc32 (fun r32 u32 t32 H32 locs32 ht32 hvm32 hw32 hB32 hz32 hk32 hS32 => ?_)
  have hr32 := hw32
  obtain ⟨hP32, hD32⟩ := gJoin (wr := [(a0, .inr (14, rg 107 f26)), (q2, .inl (ca 2, 3000, .inl f2)), (q4, .inl (ca 2, 20, .inl f4)), (q6, .inl (ca 5, 2, .inr (.inr (.inr (.inr f12))))), (q7, .inr (13, rg 81 x8_0)), (q10, .inr (13, rg 81 x11_0)), (q14, .inr (13, rg 81 x15_0)), (q17, .inl (ca 0, 3001, .inl f17)), (q19, .inl (ca 0, 3001, .inl f19)), (q27, .inl (ca 1, 4, .inr (.inl f31)))]) (w1 := []) hP31 hD31 [] [0, 1, 2, 3, 4, 5, 6, 7, 8, 9] rfl rfl (by decide) (by decide) hk32 hFc32 ht32 hB32
  have hP32 : va_P D cls [(a0, .inr (14, rg 107 f26)), (q2, .inl (ca 2, 3000, .inl f2)), (q4, .inl (ca 2, 20, .inl f4)), (q6, .inl (ca 5, 2, .inr (.inr (.inr (.inr f12))))), (q7, .inr (13, rg 81 x8_0)), (q10, .inr (13, rg 81 x11_0)), (q14, .inr (13, rg 81 x15_0)), (q17, .inl (ca 0, 3001, .inl f17)), (q19, .inl (ca 0, 3001, .inl f19)), (q27, .inl (ca 1, 4, .inr (.inl f31)))] H32 := hP32
  have hD32 : va_D A [(a0, .inr (14, rg 107 f26)), (q2, .inl (ca 2, 3000, .inl f2)), (q4, .inl (ca 2, 20, .inl f4)), (q6, .inl (ca 5, 2, .inr (.inr (.inr (.inr f12))))), (q7, .inr (13, rg 81 x8_0)), (q10, .inr (13, rg 81 x11_0)), (q14, .inr (13, rg 81 x15_0)), (q17, .inl (ca 0, 3001, .inl f17)), (q19, .inl (ca 0, 3001, .inl f19)), (q27, .inl (ca 1, 4, .inr (.inl f31)))] := hD32
  refine W.widen (k := 195) (n := 578149) (Nat.le_of_ble_eq_true rfl) (Nat.le_of_ble_eq_true rfl) ?_
  subst hr32
  refine glastX hx hb hK hP32 hD32 hS32 9 1 rfl rfl (vinC (by decide)) d_15_11_137 (fun f33 H33 locs33 hP33 hD33 hS33 => ?_)
  have hF33 : gF f33 [] := gF_nil
  have hP33 : va_P D cls [(a0, .inr (14, rg 107 f26)), (q2, .inl (ca 2, 3000, .inl f2)), (q4, .inl (ca 2, 20, .inl f4)), (q6, .inl (ca 5, 2, .inr (.inr (.inr (.inr f12))))), (q7, .inr (13, rg 81 x8_0)), (q10, .inr (13, rg 81 x11_0)), (q14, .inr (13, rg 81 x15_0)), (q17, .inl (ca 0, 3001, .inl f17)), (q19, .inl (ca 0, 3001, .inl f19)), (q27, .inl (ca 1, 4, .inr (.inl f33)))] H33 := hP33
  have hD33 : va_D A [(a0, .inr (14, rg 107 f26)), (q2, .inl (ca 2, 3000, .inl f2)), (q4, .inl (ca 2, 20, .inl f4)), (q6, .inl (ca 5, 2, .inr (.inr (.inr (.inr f12))))), (q7, .inr (13, rg 81 x8_0)), (q10, .inr (13, rg 81 x11_0)), (q14, .inr (13, rg 81 x15_0)), (q17, .inl (ca 0, 3001, .inl f17)), (q19, .inl (ca 0, 3001, .inl f19)), (q27, .inl (ca 1, 4, .inr (.inl f33)))] := hD33
  clear hP32 hD32 hS32 hF31
  refine lv_dup hx hb d_15_11_138 rfl ?_
  refine lv_iconst (v := 3) hx hb d_15_11_139 (by decide) ?_
  refine va_ldcS hx hb hown (hX.2.2.2.2.1 4 _ rfl).1 d_15_11_140 ?_
  have hFc34 := va_free (wc := []) hD33 hS33 hA [] rfl
  refine va_calll (va_runS (As := [.ref (ad 4)]) (rest := [.int 3, .ref q27, .ref q27, .ref a0]) ⟨hx, hb, hml, hown, hts⟩ (c_M_code_3 l D ca ad av H33.size  ) (va_cwS 1 hts (gdS k_10_191 k_10_192 k_1_9 k_10_193) rfl rfl rfl (by decide +kernel) ⟨Nat.le_of_ble_eq_true rfl, Nat.le_of_ble_eq_true rfl⟩) (gPS hP33 hD33 hK hS33 hA hX [] (by decide) rfl [.ref (ad 4)]) rfl rfl hl.1 rfl (lv_room (Nat.le_of_ble_eq_true rfl)) d_15_11_142 ⟨Nat.le_of_ble_eq_true rfl, Nat.le_of_ble_eq_true rfl⟩) hS33 (fun q _ h => hFc34 q h) hFc34 (fun r34 u34 t34 H34 locs34 ht34 hvm34 hw34 hB34 hz34 hk34 hS34 => ?_)
  have hr34 := hw34
  obtain ⟨hP34, hD34⟩ := gJoin (wr := [(a0, .inr (14, rg 107 f26)), (q2, .inl (ca 2, 3000, .inl f2)), (q4, .inl (ca 2, 20, .inl f4)), (q6, .inl (ca 5, 2, .inr (.inr (.inr (.inr f12))))), (q7, .inr (13, rg 81 x8_0)), (q10, .inr (13, rg 81 x11_0)), (q14, .inr (13, rg 81 x15_0)), (q17, .inl (ca 0, 3001, .inl f17)), (q19, .inl (ca 0, 3001, .inl f19)), (q27, .inl (ca 1, 4, .inr (.inl f33)))]) (w1 := []) hP33 hD33 [] [0, 1, 2, 3, 4, 5, 6, 7, 8, 9] rfl rfl (by decide) (by decide) hk34 hFc34 ht34 hB34
  have hP34 : va_P D cls [(a0, .inr (14, rg 107 f26)), (q2, .inl (ca 2, 3000, .inl f2)), (q4, .inl (ca 2, 20, .inl f4)), (q6, .inl (ca 5, 2, .inr (.inr (.inr (.inr f12))))), (q7, .inr (13, rg 81 x8_0)), (q10, .inr (13, rg 81 x11_0)), (q14, .inr (13, rg 81 x15_0)), (q17, .inl (ca 0, 3001, .inl f17)), (q19, .inl (ca 0, 3001, .inl f19)), (q27, .inl (ca 1, 4, .inr (.inl f33)))] H34 := hP34
  have hD34 : va_D A [(a0, .inr (14, rg 107 f26)), (q2, .inl (ca 2, 3000, .inl f2)), (q4, .inl (ca 2, 20, .inl f4)), (q6, .inl (ca 5, 2, .inr (.inr (.inr (.inr f12))))), (q7, .inr (13, rg 81 x8_0)), (q10, .inr (13, rg 81 x11_0)), (q14, .inr (13, rg 81 x15_0)), (q17, .inl (ca 0, 3001, .inl f17)), (q19, .inl (ca 0, 3001, .inl f19)), (q27, .inl (ca 1, 4, .inr (.inl f33)))] := hD34
  refine W.widen (k := 195) (n := 578149) (Nat.le_of_ble_eq_true rfl) (Nat.le_of_ble_eq_true rfl) ?_
  subst hr34
  refine glastX hx hb hK hP34 hD34 hS34 9 1 rfl rfl (vinC (by decide)) d_15_11_145 (fun f35 H35 locs35 hP35 hD35 hS35 => ?_)
  have hF35 : gF f35 [] := gF_nil
  have hP35 : va_P D cls [(a0, .inr (14, rg 107 f26)), (q2, .inl (ca 2, 3000, .inl f2)), (q4, .inl (ca 2, 20, .inl f4)), (q6, .inl (ca 5, 2, .inr (.inr (.inr (.inr f12))))), (q7, .inr (13, rg 81 x8_0)), (q10, .inr (13, rg 81 x11_0)), (q14, .inr (13, rg 81 x15_0)), (q17, .inl (ca 0, 3001, .inl f17)), (q19, .inl (ca 0, 3001, .inl f19)), (q27, .inl (ca 1, 4, .inr (.inl f35)))] H35 := hP35
  have hD35 : va_D A [(a0, .inr (14, rg 107 f26)), (q2, .inl (ca 2, 3000, .inl f2)), (q4, .inl (ca 2, 20, .inl f4)), (q6, .inl (ca 5, 2, .inr (.inr (.inr (.inr f12))))), (q7, .inr (13, rg 81 x8_0)), (q10, .inr (13, rg 81 x11_0)), (q14, .inr (13, rg 81 x15_0)), (q17, .inl (ca 0, 3001, .inl f17)), (q19, .inl (ca 0, 3001, .inl f19)), (q27, .inl (ca 1, 4, .inr (.inl f35)))] := hD35
  clear hP34 hD34 hS34 hF33
  refine gputFX hx hb hts inW_14 tyX14 tyX14_ok nmX14 hown hK hP35 hD35 hS35 0 rfl rfl hF26 13 (by decide) k_11_11 rfl hnm rfl rfl rfl d_15_11_146 (L' := [(8, .ref q19), (7, .ref q17), (6, .ref q14), (5, .ref q6), (4, .ref q4), (2, .ref q2)]) rfl (fun f36 H36 locs36 hF36 hm36 hP36 hD36 hS36 => ?_)
  have hM36 := gM.tr hM26 hm36
  have hP36 : va_P D cls [(a0, .inr (14, rg 107 f36)), (q2, .inl (ca 2, 3000, .inl f2)), (q4, .inl (ca 2, 20, .inl f4)), (q6, .inl (ca 5, 2, .inr (.inr (.inr (.inr f12))))), (q7, .inr (13, rg 81 x8_0)), (q10, .inr (13, rg 81 x11_0)), (q14, .inr (13, rg 81 x15_0)), (q17, .inl (ca 0, 3001, .inl f17)), (q19, .inl (ca 0, 3001, .inl f19)), (q27, .inl (ca 1, 4, .inr (.inl f35)))] H36 := hP36
  have hD36 : va_D A [(a0, .inr (14, rg 107 f36)), (q2, .inl (ca 2, 3000, .inl f2)), (q4, .inl (ca 2, 20, .inl f4)), (q6, .inl (ca 5, 2, .inr (.inr (.inr (.inr f12))))), (q7, .inr (13, rg 81 x8_0)), (q10, .inr (13, rg 81 x11_0)), (q14, .inr (13, rg 81 x15_0)), (q17, .inl (ca 0, 3001, .inl f17)), (q19, .inl (ca 0, 3001, .inl f19)), (q27, .inl (ca 1, 4, .inr (.inl f35)))] := hD36
  clear hP35 hD35 hS35 hF26 hM26 hm36
  have hP37 := hP36.sub (ws' := [(a0, .inr (14, rg 107 f36)), (q2, .inl (ca 2, 3000, .inl f2)), (q4, .inl (ca 2, 20, .inl f4)), (q6, .inl (ca 5, 2, .inr (.inr (.inr (.inr f12))))), (q7, .inr (13, rg 81 x8_0)), (q10, .inr (13, rg 81 x11_0)), (q14, .inr (13, rg 81 x15_0)), (q17, .inl (ca 0, 3001, .inl f17)), (q19, .inl (ca 0, 3001, .inl f19))]) [0, 1, 2, 3, 4, 5, 6, 7, 8] rfl
  have hD37 := hD36.sub (ws' := [(a0, .inr (14, rg 107 f36)), (q2, .inl (ca 2, 3000, .inl f2)), (q4, .inl (ca 2, 20, .inl f4)), (q6, .inl (ca 5, 2, .inr (.inr (.inr (.inr f12))))), (q7, .inr (13, rg 81 x8_0)), (q10, .inr (13, rg 81 x11_0)), (q14, .inr (13, rg 81 x15_0)), (q17, .inl (ca 0, 3001, .inl f17)), (q19, .inl (ca 0, 3001, .inl f19))]) [0, 1, 2, 3, 4, 5, 6, 7, 8] (by decide) rfl
  refine lv_aload_n hx hb d_15_11_149 rfl (lv_at hl 0 rfl) ?_
  refine lv_bipush (v := 8) hx hb d_15_11_150 (by decide) ?_
  refine gnewa (atype := .long) hx hb hts (ty := .long) rfl k_1_105 hK 1 rfl (fun _ _ => gu_long) hP37 hD37 hS36 hA (a0 := (8, .inr (.inl (fun _ => 0)))) (fun _ => rfl) (by decide) (N' := 8) (by decide) (Nat.le_of_ble_eq_true rfl) (Nat.le_of_ble_eq_true rfl) (Nat.le_of_ble_eq_true rfl) d_15_11_152 (fun q38 H38 hP38 hD38 hS38 => ?_)
  obtain ⟨f38, hF38, hP38, hD38⟩ : ∃ f : Nat → Int64, gF f [] ∧ va_P D cls ([(a0, .inr (14, rg 107 f36)), (q2, .inl (ca 2, 3000, .inl f2)), (q4, .inl (ca 2, 20, .inl f4)), (q6, .inl (ca 5, 2, .inr (.inr (.inr (.inr f12))))), (q7, .inr (13, rg 81 x8_0)), (q10, .inr (13, rg 81 x11_0)), (q14, .inr (13, rg 81 x15_0)), (q17, .inl (ca 0, 3001, .inl f17)), (q19, .inl (ca 0, 3001, .inl f19))] ++ [(q38, .inl (ca 1, 8, .inr (.inl f)))]) H38 ∧ va_D A ([(a0, .inr (14, rg 107 f36)), (q2, .inl (ca 2, 3000, .inl f2)), (q4, .inl (ca 2, 20, .inl f4)), (q6, .inl (ca 5, 2, .inr (.inr (.inr (.inr f12))))), (q7, .inr (13, rg 81 x8_0)), (q10, .inr (13, rg 81 x11_0)), (q14, .inr (13, rg 81 x15_0)), (q17, .inl (ca 0, 3001, .inl f17)), (q19, .inl (ca 0, 3001, .inl f19))] ++ [(q38, .inl (ca 1, 8, .inr (.inl f)))]) := ⟨_, gF_nil, hP38, hD38⟩
  have hP38 : va_P D cls [(a0, .inr (14, rg 107 f36)), (q2, .inl (ca 2, 3000, .inl f2)), (q4, .inl (ca 2, 20, .inl f4)), (q6, .inl (ca 5, 2, .inr (.inr (.inr (.inr f12))))), (q7, .inr (13, rg 81 x8_0)), (q10, .inr (13, rg 81 x11_0)), (q14, .inr (13, rg 81 x15_0)), (q17, .inl (ca 0, 3001, .inl f17)), (q19, .inl (ca 0, 3001, .inl f19)), (q38, .inl (ca 1, 8, .inr (.inl f38)))] H38 := hP38
  have hD38 : va_D A [(a0, .inr (14, rg 107 f36)), (q2, .inl (ca 2, 3000, .inl f2)), (q4, .inl (ca 2, 20, .inl f4)), (q6, .inl (ca 5, 2, .inr (.inr (.inr (.inr f12))))), (q7, .inr (13, rg 81 x8_0)), (q10, .inr (13, rg 81 x11_0)), (q14, .inr (13, rg 81 x15_0)), (q17, .inl (ca 0, 3001, .inl f17)), (q19, .inl (ca 0, 3001, .inl f19)), (q38, .inl (ca 1, 8, .inr (.inl f38)))] := hD38
  refine W.widen (k := 196) (n := 578157) (Nat.le_of_ble_eq_true rfl) (Nat.le_of_ble_eq_true rfl) ?_
  refine lv_dup hx hb d_15_11_154 rfl ?_
  refine lv_iconst (v := 0) hx hb d_15_11_155 (by decide) ?_
  refine va_ldcS hx hb hown (hX.2.2.2.2.1 5 _ rfl).1 d_15_11_156 ?_
  have hFc39 := va_free (wc := []) hD38 hS38 hA [] rfl
  refine va_calll (va_runS (As := [.ref (ad 5)]) (rest := [.int 0, .ref q38, .ref q38, .ref a0]) ⟨hx, hb, hml, hown, hts⟩ (c_M_code_4 l D ca ad av H38.size  ) (va_cwS 1 hts (gdS k_10_191 k_10_192 k_1_9 k_10_193) rfl rfl rfl (by decide +kernel) ⟨Nat.le_of_ble_eq_true rfl, Nat.le_of_ble_eq_true rfl⟩) (gPS hP38 hD38 hK hS38 hA hX [] (by decide) rfl [.ref (ad 5)]) rfl rfl hl.1 rfl (lv_room (Nat.le_of_ble_eq_true rfl)) d_15_11_158 ⟨Nat.le_of_ble_eq_true rfl, Nat.le_of_ble_eq_true rfl⟩) hS38 (fun q _ h => hFc39 q h) hFc39 (fun r39 u39 t39 H39 locs39 ht39 hvm39 hw39 hB39 hz39 hk39 hS39 => ?_)
  have hr39 := hw39
  obtain ⟨hP39, hD39⟩ := gJoin (wr := [(a0, .inr (14, rg 107 f36)), (q2, .inl (ca 2, 3000, .inl f2)), (q4, .inl (ca 2, 20, .inl f4)), (q6, .inl (ca 5, 2, .inr (.inr (.inr (.inr f12))))), (q7, .inr (13, rg 81 x8_0)), (q10, .inr (13, rg 81 x11_0)), (q14, .inr (13, rg 81 x15_0)), (q17, .inl (ca 0, 3001, .inl f17)), (q19, .inl (ca 0, 3001, .inl f19)), (q38, .inl (ca 1, 8, .inr (.inl f38)))]) (w1 := []) hP38 hD38 [] [0, 1, 2, 3, 4, 5, 6, 7, 8, 9] rfl rfl (by decide) (by decide) hk39 hFc39 ht39 hB39
  have hP39 : va_P D cls [(a0, .inr (14, rg 107 f36)), (q2, .inl (ca 2, 3000, .inl f2)), (q4, .inl (ca 2, 20, .inl f4)), (q6, .inl (ca 5, 2, .inr (.inr (.inr (.inr f12))))), (q7, .inr (13, rg 81 x8_0)), (q10, .inr (13, rg 81 x11_0)), (q14, .inr (13, rg 81 x15_0)), (q17, .inl (ca 0, 3001, .inl f17)), (q19, .inl (ca 0, 3001, .inl f19)), (q38, .inl (ca 1, 8, .inr (.inl f38)))] H39 := hP39
  have hD39 : va_D A [(a0, .inr (14, rg 107 f36)), (q2, .inl (ca 2, 3000, .inl f2)), (q4, .inl (ca 2, 20, .inl f4)), (q6, .inl (ca 5, 2, .inr (.inr (.inr (.inr f12))))), (q7, .inr (13, rg 81 x8_0)), (q10, .inr (13, rg 81 x11_0)), (q14, .inr (13, rg 81 x15_0)), (q17, .inl (ca 0, 3001, .inl f17)), (q19, .inl (ca 0, 3001, .inl f19)), (q38, .inl (ca 1, 8, .inr (.inl f38)))] := hD39
  refine W.widen (k := 196) (n := 578157) (Nat.le_of_ble_eq_true rfl) (Nat.le_of_ble_eq_true rfl) ?_
  subst hr39
  refine glastX hx hb hK hP39 hD39 hS39 9 1 rfl rfl (vinC (by decide)) d_15_11_161 (fun f40 H40 locs40 hP40 hD40 hS40 => ?_)
  have hF40 : gF f40 [] := gF_nil
  have hP40 : va_P D cls [(a0, .inr (14, rg 107 f36)), (q2, .inl (ca 2, 3000, .inl f2)), (q4, .inl (ca 2, 20, .inl f4)), (q6, .inl (ca 5, 2, .inr (.inr (.inr (.inr f12))))), (q7, .inr (13, rg 81 x8_0)), (q10, .inr (13, rg 81 x11_0)), (q14, .inr (13, rg 81 x15_0)), (q17, .inl (ca 0, 3001, .inl f17)), (q19, .inl (ca 0, 3001, .inl f19)), (q38, .inl (ca 1, 8, .inr (.inl f40)))] H40 := hP40
  have hD40 : va_D A [(a0, .inr (14, rg 107 f36)), (q2, .inl (ca 2, 3000, .inl f2)), (q4, .inl (ca 2, 20, .inl f4)), (q6, .inl (ca 5, 2, .inr (.inr (.inr (.inr f12))))), (q7, .inr (13, rg 81 x8_0)), (q10, .inr (13, rg 81 x11_0)), (q14, .inr (13, rg 81 x15_0)), (q17, .inl (ca 0, 3001, .inl f17)), (q19, .inl (ca 0, 3001, .inl f19)), (q38, .inl (ca 1, 8, .inr (.inl f40)))] := hD40
  clear hP39 hD39 hS39 hF38
  refine lv_dup hx hb d_15_11_162 rfl ?_
  refine lv_iconst (v := 1) hx hb d_15_11_163 (by decide) ?_
  refine va_ldcS hx hb hown (hX.2.2.2.2.1 6 _ rfl).1 d_15_11_164 ?_
  have hFc41 := va_free (wc := []) hD40 hS40 hA [] rfl
  refine va_calll (va_runS (As := [.ref (ad 6)]) (rest := [.int 1, .ref q38, .ref q38, .ref a0]) ⟨hx, hb, hml, hown, hts⟩ (c_M_code_5 l D ca ad av H40.size  ) (va_cwS 1 hts (gdS k_10_191 k_10_192 k_1_9 k_10_193) rfl rfl rfl (by decide +kernel) ⟨Nat.le_of_ble_eq_true rfl, Nat.le_of_ble_eq_true rfl⟩) (gPS hP40 hD40 hK hS40 hA hX [] (by decide) rfl [.ref (ad 6)]) rfl rfl hl.1 rfl (lv_room (Nat.le_of_ble_eq_true rfl)) d_15_11_166 ⟨Nat.le_of_ble_eq_true rfl, Nat.le_of_ble_eq_true rfl⟩) hS40 (fun q _ h => hFc41 q h) hFc41 (fun r41 u41 t41 H41 locs41 ht41 hvm41 hw41 hB41 hz41 hk41 hS41 => ?_)
  have hr41 := hw41
  obtain ⟨hP41, hD41⟩ := gJoin (wr := [(a0, .inr (14, rg 107 f36)), (q2, .inl (ca 2, 3000, .inl f2)), (q4, .inl (ca 2, 20, .inl f4)), (q6, .inl (ca 5, 2, .inr (.inr (.inr (.inr f12))))), (q7, .inr (13, rg 81 x8_0)), (q10, .inr (13, rg 81 x11_0)), (q14, .inr (13, rg 81 x15_0)), (q17, .inl (ca 0, 3001, .inl f17)), (q19, .inl (ca 0, 3001, .inl f19)), (q38, .inl (ca 1, 8, .inr (.inl f40)))]) (w1 := []) hP40 hD40 [] [0, 1, 2, 3, 4, 5, 6, 7, 8, 9] rfl rfl (by decide) (by decide) hk41 hFc41 ht41 hB41
  have hP41 : va_P D cls [(a0, .inr (14, rg 107 f36)), (q2, .inl (ca 2, 3000, .inl f2)), (q4, .inl (ca 2, 20, .inl f4)), (q6, .inl (ca 5, 2, .inr (.inr (.inr (.inr f12))))), (q7, .inr (13, rg 81 x8_0)), (q10, .inr (13, rg 81 x11_0)), (q14, .inr (13, rg 81 x15_0)), (q17, .inl (ca 0, 3001, .inl f17)), (q19, .inl (ca 0, 3001, .inl f19)), (q38, .inl (ca 1, 8, .inr (.inl f40)))] H41 := hP41
  have hD41 : va_D A [(a0, .inr (14, rg 107 f36)), (q2, .inl (ca 2, 3000, .inl f2)), (q4, .inl (ca 2, 20, .inl f4)), (q6, .inl (ca 5, 2, .inr (.inr (.inr (.inr f12))))), (q7, .inr (13, rg 81 x8_0)), (q10, .inr (13, rg 81 x11_0)), (q14, .inr (13, rg 81 x15_0)), (q17, .inl (ca 0, 3001, .inl f17)), (q19, .inl (ca 0, 3001, .inl f19)), (q38, .inl (ca 1, 8, .inr (.inl f40)))] := hD41
  refine W.widen (k := 196) (n := 578157) (Nat.le_of_ble_eq_true rfl) (Nat.le_of_ble_eq_true rfl) ?_
  subst hr41
  refine glastX hx hb hK hP41 hD41 hS41 9 1 rfl rfl (vinC (by decide)) d_15_11_169 (fun f42 H42 locs42 hP42 hD42 hS42 => ?_)
  have hF42 : gF f42 [] := gF_nil
  have hP42 : va_P D cls [(a0, .inr (14, rg 107 f36)), (q2, .inl (ca 2, 3000, .inl f2)), (q4, .inl (ca 2, 20, .inl f4)), (q6, .inl (ca 5, 2, .inr (.inr (.inr (.inr f12))))), (q7, .inr (13, rg 81 x8_0)), (q10, .inr (13, rg 81 x11_0)), (q14, .inr (13, rg 81 x15_0)), (q17, .inl (ca 0, 3001, .inl f17)), (q19, .inl (ca 0, 3001, .inl f19)), (q38, .inl (ca 1, 8, .inr (.inl f42)))] H42 := hP42
  have hD42 : va_D A [(a0, .inr (14, rg 107 f36)), (q2, .inl (ca 2, 3000, .inl f2)), (q4, .inl (ca 2, 20, .inl f4)), (q6, .inl (ca 5, 2, .inr (.inr (.inr (.inr f12))))), (q7, .inr (13, rg 81 x8_0)), (q10, .inr (13, rg 81 x11_0)), (q14, .inr (13, rg 81 x15_0)), (q17, .inl (ca 0, 3001, .inl f17)), (q19, .inl (ca 0, 3001, .inl f19)), (q38, .inl (ca 1, 8, .inr (.inl f42)))] := hD42
  clear hP41 hD41 hS41 hF40
  refine lv_dup hx hb d_15_11_170 rfl ?_
  refine lv_iconst (v := 2) hx hb d_15_11_171 (by decide) ?_
  refine va_ldcS hx hb hown (hX.2.2.2.2.1 7 _ rfl).1 d_15_11_172 ?_
  have hFc43 := va_free (wc := []) hD42 hS42 hA [] rfl
  refine va_calll (va_runS (As := [.ref (ad 7)]) (rest := [.int 2, .ref q38, .ref q38, .ref a0]) ⟨hx, hb, hml, hown, hts⟩ (c_M_code_6 l D ca ad av H42.size  ) (va_cwS 1 hts (gdS k_10_191 k_10_192 k_1_9 k_10_193) rfl rfl rfl (by decide +kernel) ⟨Nat.le_of_ble_eq_true rfl, Nat.le_of_ble_eq_true rfl⟩) (gPS hP42 hD42 hK hS42 hA hX [] (by decide) rfl [.ref (ad 7)]) rfl rfl hl.1 rfl (lv_room (Nat.le_of_ble_eq_true rfl)) d_15_11_174 ⟨Nat.le_of_ble_eq_true rfl, Nat.le_of_ble_eq_true rfl⟩) hS42 (fun q _ h => hFc43 q h) hFc43 (fun r43 u43 t43 H43 locs43 ht43 hvm43 hw43 hB43 hz43 hk43 hS43 => ?_)
  have hr43 := hw43
  obtain ⟨hP43, hD43⟩ := gJoin (wr := [(a0, .inr (14, rg 107 f36)), (q2, .inl (ca 2, 3000, .inl f2)), (q4, .inl (ca 2, 20, .inl f4)), (q6, .inl (ca 5, 2, .inr (.inr (.inr (.inr f12))))), (q7, .inr (13, rg 81 x8_0)), (q10, .inr (13, rg 81 x11_0)), (q14, .inr (13, rg 81 x15_0)), (q17, .inl (ca 0, 3001, .inl f17)), (q19, .inl (ca 0, 3001, .inl f19)), (q38, .inl (ca 1, 8, .inr (.inl f42)))]) (w1 := []) hP42 hD42 [] [0, 1, 2, 3, 4, 5, 6, 7, 8, 9] rfl rfl (by decide) (by decide) hk43 hFc43 ht43 hB43
  have hP43 : va_P D cls [(a0, .inr (14, rg 107 f36)), (q2, .inl (ca 2, 3000, .inl f2)), (q4, .inl (ca 2, 20, .inl f4)), (q6, .inl (ca 5, 2, .inr (.inr (.inr (.inr f12))))), (q7, .inr (13, rg 81 x8_0)), (q10, .inr (13, rg 81 x11_0)), (q14, .inr (13, rg 81 x15_0)), (q17, .inl (ca 0, 3001, .inl f17)), (q19, .inl (ca 0, 3001, .inl f19)), (q38, .inl (ca 1, 8, .inr (.inl f42)))] H43 := hP43
  have hD43 : va_D A [(a0, .inr (14, rg 107 f36)), (q2, .inl (ca 2, 3000, .inl f2)), (q4, .inl (ca 2, 20, .inl f4)), (q6, .inl (ca 5, 2, .inr (.inr (.inr (.inr f12))))), (q7, .inr (13, rg 81 x8_0)), (q10, .inr (13, rg 81 x11_0)), (q14, .inr (13, rg 81 x15_0)), (q17, .inl (ca 0, 3001, .inl f17)), (q19, .inl (ca 0, 3001, .inl f19)), (q38, .inl (ca 1, 8, .inr (.inl f42)))] := hD43
  refine W.widen (k := 196) (n := 578157) (Nat.le_of_ble_eq_true rfl) (Nat.le_of_ble_eq_true rfl) ?_
  subst hr43
  refine glastX hx hb hK hP43 hD43 hS43 9 1 rfl rfl (vinC (by decide)) d_15_11_177 (fun f44 H44 locs44 hP44 hD44 hS44 => ?_)
  have hF44 : gF f44 [] := gF_nil
  have hP44 : va_P D cls [(a0, .inr (14, rg 107 f36)), (q2, .inl (ca 2, 3000, .inl f2)), (q4, .inl (ca 2, 20, .inl f4)), (q6, .inl (ca 5, 2, .inr (.inr (.inr (.inr f12))))), (q7, .inr (13, rg 81 x8_0)), (q10, .inr (13, rg 81 x11_0)), (q14, .inr (13, rg 81 x15_0)), (q17, .inl (ca 0, 3001, .inl f17)), (q19, .inl (ca 0, 3001, .inl f19)), (q38, .inl (ca 1, 8, .inr (.inl f44)))] H44 := hP44
  have hD44 : va_D A [(a0, .inr (14, rg 107 f36)), (q2, .inl (ca 2, 3000, .inl f2)), (q4, .inl (ca 2, 20, .inl f4)), (q6, .inl (ca 5, 2, .inr (.inr (.inr (.inr f12))))), (q7, .inr (13, rg 81 x8_0)), (q10, .inr (13, rg 81 x11_0)), (q14, .inr (13, rg 81 x15_0)), (q17, .inl (ca 0, 3001, .inl f17)), (q19, .inl (ca 0, 3001, .inl f19)), (q38, .inl (ca 1, 8, .inr (.inl f44)))] := hD44
  clear hP43 hD43 hS43 hF42
  refine lv_dup hx hb d_15_11_178 rfl ?_
  refine lv_iconst (v := 3) hx hb d_15_11_179 (by decide) ?_
  refine va_ldcS hx hb hown (hX.2.2.2.2.1 8 _ rfl).1 d_15_11_180 ?_
  have hFc45 := va_free (wc := []) hD44 hS44 hA [] rfl
  refine va_calll (va_runS (As := [.ref (ad 8)]) (rest := [.int 3, .ref q38, .ref q38, .ref a0]) ⟨hx, hb, hml, hown, hts⟩ (c_M_code_7 l D ca ad av H44.size  ) (va_cwS 1 hts (gdS k_10_191 k_10_192 k_1_9 k_10_193) rfl rfl rfl (by decide +kernel) ⟨Nat.le_of_ble_eq_true rfl, Nat.le_of_ble_eq_true rfl⟩) (gPS hP44 hD44 hK hS44 hA hX [] (by decide) rfl [.ref (ad 8)]) rfl rfl hl.1 rfl (lv_room (Nat.le_of_ble_eq_true rfl)) d_15_11_182 ⟨Nat.le_of_ble_eq_true rfl, Nat.le_of_ble_eq_true rfl⟩) hS44 (fun q _ h => hFc45 q h) hFc45 (fun r45 u45 t45 H45 locs45 ht45 hvm45 hw45 hB45 hz45 hk45 hS45 => ?_)
  have hr45 := hw45
  obtain ⟨hP45, hD45⟩ := gJoin (wr := [(a0, .inr (14, rg 107 f36)), (q2, .inl (ca 2, 3000, .inl f2)), (q4, .inl (ca 2, 20, .inl f4)), (q6, .inl (ca 5, 2, .inr (.inr (.inr (.inr f12))))), (q7, .inr (13, rg 81 x8_0)), (q10, .inr (13, rg 81 x11_0)), (q14, .inr (13, rg 81 x15_0)), (q17, .inl (ca 0, 3001, .inl f17)), (q19, .inl (ca 0, 3001, .inl f19)), (q38, .inl (ca 1, 8, .inr (.inl f44)))]) (w1 := []) hP44 hD44 [] [0, 1, 2, 3, 4, 5, 6, 7, 8, 9] rfl rfl (by decide) (by decide) hk45 hFc45 ht45 hB45
  have hP45 : va_P D cls [(a0, .inr (14, rg 107 f36)), (q2, .inl (ca 2, 3000, .inl f2)), (q4, .inl (ca 2, 20, .inl f4)), (q6, .inl (ca 5, 2, .inr (.inr (.inr (.inr f12))))), (q7, .inr (13, rg 81 x8_0)), (q10, .inr (13, rg 81 x11_0)), (q14, .inr (13, rg 81 x15_0)), (q17, .inl (ca 0, 3001, .inl f17)), (q19, .inl (ca 0, 3001, .inl f19)), (q38, .inl (ca 1, 8, .inr (.inl f44)))] H45 := hP45
  have hD45 : va_D A [(a0, .inr (14, rg 107 f36)), (q2, .inl (ca 2, 3000, .inl f2)), (q4, .inl (ca 2, 20, .inl f4)), (q6, .inl (ca 5, 2, .inr (.inr (.inr (.inr f12))))), (q7, .inr (13, rg 81 x8_0)), (q10, .inr (13, rg 81 x11_0)), (q14, .inr (13, rg 81 x15_0)), (q17, .inl (ca 0, 3001, .inl f17)), (q19, .inl (ca 0, 3001, .inl f19)), (q38, .inl (ca 1, 8, .inr (.inl f44)))] := hD45
  refine W.widen (k := 196) (n := 578157) (Nat.le_of_ble_eq_true rfl) (Nat.le_of_ble_eq_true rfl) ?_
  subst hr45
  refine glastX hx hb hK hP45 hD45 hS45 9 1 rfl rfl (vinC (by decide)) d_15_11_185 (fun f46 H46 locs46 hP46 hD46 hS46 => ?_)
  have hF46 : gF f46 [] := gF_nil
  have hP46 : va_P D cls [(a0, .inr (14, rg 107 f36)), (q2, .inl (ca 2, 3000, .inl f2)), (q4, .inl (ca 2, 20, .inl f4)), (q6, .inl (ca 5, 2, .inr (.inr (.inr (.inr f12))))), (q7, .inr (13, rg 81 x8_0)), (q10, .inr (13, rg 81 x11_0)), (q14, .inr (13, rg 81 x15_0)), (q17, .inl (ca 0, 3001, .inl f17)), (q19, .inl (ca 0, 3001, .inl f19)), (q38, .inl (ca 1, 8, .inr (.inl f46)))] H46 := hP46
  have hD46 : va_D A [(a0, .inr (14, rg 107 f36)), (q2, .inl (ca 2, 3000, .inl f2)), (q4, .inl (ca 2, 20, .inl f4)), (q6, .inl (ca 5, 2, .inr (.inr (.inr (.inr f12))))), (q7, .inr (13, rg 81 x8_0)), (q10, .inr (13, rg 81 x11_0)), (q14, .inr (13, rg 81 x15_0)), (q17, .inl (ca 0, 3001, .inl f17)), (q19, .inl (ca 0, 3001, .inl f19)), (q38, .inl (ca 1, 8, .inr (.inl f46)))] := hD46
  clear hP45 hD45 hS45 hF44
  refine lv_dup hx hb d_15_11_186 rfl ?_
  refine lv_iconst (v := 4) hx hb d_15_11_187 (by decide) ?_
  refine va_ldcS hx hb hown (hX.2.2.2.2.1 9 _ rfl).1 d_15_11_188 ?_
  have hFc47 := va_free (wc := []) hD46 hS46 hA [] rfl
  refine va_calll (va_runS (As := [.ref (ad 9)]) (rest := [.int 4, .ref q38, .ref q38, .ref a0]) ⟨hx, hb, hml, hown, hts⟩ (c_M_code_8 l D ca ad av H46.size  ) (va_cwS 1 hts (gdS k_10_191 k_10_192 k_1_9 k_10_193) rfl rfl rfl (by decide +kernel) ⟨Nat.le_of_ble_eq_true rfl, Nat.le_of_ble_eq_true rfl⟩) (gPS hP46 hD46 hK hS46 hA hX [] (by decide) rfl [.ref (ad 9)]) rfl rfl hl.1 rfl (lv_room (Nat.le_of_ble_eq_true rfl)) d_15_11_190 ⟨Nat.le_of_ble_eq_true rfl, Nat.le_of_ble_eq_true rfl⟩) hS46 (fun q _ h => hFc47 q h) hFc47 (fun r47 u47 t47 H47 locs47 ht47 hvm47 hw47 hB47 hz47 hk47 hS47 => ?_)
  have hr47 := hw47
  obtain ⟨hP47, hD47⟩ := gJoin (wr := [(a0, .inr (14, rg 107 f36)), (q2, .inl (ca 2, 3000, .inl f2)), (q4, .inl (ca 2, 20, .inl f4)), (q6, .inl (ca 5, 2, .inr (.inr (.inr (.inr f12))))), (q7, .inr (13, rg 81 x8_0)), (q10, .inr (13, rg 81 x11_0)), (q14, .inr (13, rg 81 x15_0)), (q17, .inl (ca 0, 3001, .inl f17)), (q19, .inl (ca 0, 3001, .inl f19)), (q38, .inl (ca 1, 8, .inr (.inl f46)))]) (w1 := []) hP46 hD46 [] [0, 1, 2, 3, 4, 5, 6, 7, 8, 9] rfl rfl (by decide) (by decide) hk47 hFc47 ht47 hB47
  have hP47 : va_P D cls [(a0, .inr (14, rg 107 f36)), (q2, .inl (ca 2, 3000, .inl f2)), (q4, .inl (ca 2, 20, .inl f4)), (q6, .inl (ca 5, 2, .inr (.inr (.inr (.inr f12))))), (q7, .inr (13, rg 81 x8_0)), (q10, .inr (13, rg 81 x11_0)), (q14, .inr (13, rg 81 x15_0)), (q17, .inl (ca 0, 3001, .inl f17)), (q19, .inl (ca 0, 3001, .inl f19)), (q38, .inl (ca 1, 8, .inr (.inl f46)))] H47 := hP47
  have hD47 : va_D A [(a0, .inr (14, rg 107 f36)), (q2, .inl (ca 2, 3000, .inl f2)), (q4, .inl (ca 2, 20, .inl f4)), (q6, .inl (ca 5, 2, .inr (.inr (.inr (.inr f12))))), (q7, .inr (13, rg 81 x8_0)), (q10, .inr (13, rg 81 x11_0)), (q14, .inr (13, rg 81 x15_0)), (q17, .inl (ca 0, 3001, .inl f17)), (q19, .inl (ca 0, 3001, .inl f19)), (q38, .inl (ca 1, 8, .inr (.inl f46)))] := hD47
  refine W.widen (k := 196) (n := 578157) (Nat.le_of_ble_eq_true rfl) (Nat.le_of_ble_eq_true rfl) ?_
  subst hr47
  refine glastX hx hb hK hP47 hD47 hS47 9 1 rfl rfl (vinC (by decide)) d_15_11_193 (fun f48 H48 locs48 hP48 hD48 hS48 => ?_)
  have hF48 : gF f48 [] := gF_nil
  have hP48 : va_P D cls [(a0, .inr (14, rg 107 f36)), (q2, .inl (ca 2, 3000, .inl f2)), (q4, .inl (ca 2, 20, .inl f4)), (q6, .inl (ca 5, 2, .inr (.inr (.inr (.inr f12))))), (q7, .inr (13, rg 81 x8_0)), (q10, .inr (13, rg 81 x11_0)), (q14, .inr (13, rg 81 x15_0)), (q17, .inl (ca 0, 3001, .inl f17)), (q19, .inl (ca 0, 3001, .inl f19)), (q38, .inl (ca 1, 8, .inr (.inl f48)))] H48 := hP48
  have hD48 : va_D A [(a0, .inr (14, rg 107 f36)), (q2, .inl (ca 2, 3000, .inl f2)), (q4, .inl (ca 2, 20, .inl f4)), (q6, .inl (ca 5, 2, .inr (.inr (.inr (.inr f12))))), (q7, .inr (13, rg 81 x8_0)), (q10, .inr (13, rg 81 x11_0)), (q14, .inr (13, rg 81 x15_0)), (q17, .inl (ca 0, 3001, .inl f17)), (q19, .inl (ca 0, 3001, .inl f19)), (q38, .inl (ca 1, 8, .inr (.inl f48)))] := hD48
  clear hP47 hD47 hS47 hF46
  refine lv_dup hx hb d_15_11_194 rfl ?_
  refine lv_iconst (v := 5) hx hb d_15_11_195 (by decide) ?_
  refine va_ldcS hx hb hown (hX.2.2.2.2.1 10 _ rfl).1 d_15_11_196 ?_
  have hFc49 := va_free (wc := []) hD48 hS48 hA [] rfl
  refine va_calll (va_runS (As := [.ref (ad 10)]) (rest := [.int 5, .ref q38, .ref q38, .ref a0]) ⟨hx, hb, hml, hown, hts⟩ (c_M_code_9 l D ca ad av H48.size  ) (va_cwS 1 hts (gdS k_10_191 k_10_192 k_1_9 k_10_193) rfl rfl rfl (by decide +kernel) ⟨Nat.le_of_ble_eq_true rfl, Nat.le_of_ble_eq_true rfl⟩) (gPS hP48 hD48 hK hS48 hA hX [] (by decide) rfl [.ref (ad 10)]) rfl rfl hl.1 rfl (lv_room (Nat.le_of_ble_eq_true rfl)) d_15_11_198 ⟨Nat.le_of_ble_eq_true rfl, Nat.le_of_ble_eq_true rfl⟩) hS48 (fun q _ h => hFc49 q h) hFc49 (fun r49 u49 t49 H49 locs49 ht49 hvm49 hw49 hB49 hz49 hk49 hS49 => ?_)
  have hr49 := hw49
  obtain ⟨hP49, hD49⟩ := gJoin (wr := [(a0, .inr (14, rg 107 f36)), (q2, .inl (ca 2, 3000, .inl f2)), (q4, .inl (ca 2, 20, .inl f4)), (q6, .inl (ca 5, 2, .inr (.inr (.inr (.inr f12))))), (q7, .inr (13, rg 81 x8_0)), (q10, .inr (13, rg 81 x11_0)), (q14, .inr (13, rg 81 x15_0)), (q17, .inl (ca 0, 3001, .inl f17)), (q19, .inl (ca 0, 3001, .inl f19)), (q38, .inl (ca 1, 8, .inr (.inl f48)))]) (w1 := []) hP48 hD48 [] [0, 1, 2, 3, 4, 5, 6, 7, 8, 9] rfl rfl (by decide) (by decide) hk49 hFc49 ht49 hB49
  have hP49 : va_P D cls [(a0, .inr (14, rg 107 f36)), (q2, .inl (ca 2, 3000, .inl f2)), (q4, .inl (ca 2, 20, .inl f4)), (q6, .inl (ca 5, 2, .inr (.inr (.inr (.inr f12))))), (q7, .inr (13, rg 81 x8_0)), (q10, .inr (13, rg 81 x11_0)), (q14, .inr (13, rg 81 x15_0)), (q17, .inl (ca 0, 3001, .inl f17)), (q19, .inl (ca 0, 3001, .inl f19)), (q38, .inl (ca 1, 8, .inr (.inl f48)))] H49 := hP49
  have hD49 : va_D A [(a0, .inr (14, rg 107 f36)), (q2, .inl (ca 2, 3000, .inl f2)), (q4, .inl (ca 2, 20, .inl f4)), (q6, .inl (ca 5, 2, .inr (.inr (.inr (.inr f12))))), (q7, .inr (13, rg 81 x8_0)), (q10, .inr (13, rg 81 x11_0)), (q14, .inr (13, rg 81 x15_0)), (q17, .inl (ca 0, 3001, .inl f17)), (q19, .inl (ca 0, 3001, .inl f19)), (q38, .inl (ca 1, 8, .inr (.inl f48)))] := hD49
  refine W.widen (k := 196) (n := 578157) (Nat.le_of_ble_eq_true rfl) (Nat.le_of_ble_eq_true rfl) ?_
  subst hr49
  refine glastX hx hb hK hP49 hD49 hS49 9 1 rfl rfl (vinC (by decide)) d_15_11_201 (fun f50 H50 locs50 hP50 hD50 hS50 => ?_)
  have hF50 : gF f50 [] := gF_nil
  have hP50 : va_P D cls [(a0, .inr (14, rg 107 f36)), (q2, .inl (ca 2, 3000, .inl f2)), (q4, .inl (ca 2, 20, .inl f4)), (q6, .inl (ca 5, 2, .inr (.inr (.inr (.inr f12))))), (q7, .inr (13, rg 81 x8_0)), (q10, .inr (13, rg 81 x11_0)), (q14, .inr (13, rg 81 x15_0)), (q17, .inl (ca 0, 3001, .inl f17)), (q19, .inl (ca 0, 3001, .inl f19)), (q38, .inl (ca 1, 8, .inr (.inl f50)))] H50 := hP50
  have hD50 : va_D A [(a0, .inr (14, rg 107 f36)), (q2, .inl (ca 2, 3000, .inl f2)), (q4, .inl (ca 2, 20, .inl f4)), (q6, .inl (ca 5, 2, .inr (.inr (.inr (.inr f12))))), (q7, .inr (13, rg 81 x8_0)), (q10, .inr (13, rg 81 x11_0)), (q14, .inr (13, rg 81 x15_0)), (q17, .inl (ca 0, 3001, .inl f17)), (q19, .inl (ca 0, 3001, .inl f19)), (q38, .inl (ca 1, 8, .inr (.inl f50)))] := hD50
  clear hP49 hD49 hS49 hF48
  refine lv_dup hx hb d_15_11_202 rfl ?_
  refine lv_bipush (v := 6) hx hb d_15_11_203 (by decide) ?_
  refine va_ldcS hx hb hown (hX.2.2.2.2.1 11 _ rfl).1 d_15_11_205 ?_
  have hFc51 := va_free (wc := []) hD50 hS50 hA [] rfl
  refine va_calll (va_runS (As := [.ref (ad 11)]) (rest := [.int 6, .ref q38, .ref q38, .ref a0]) ⟨hx, hb, hml, hown, hts⟩ (c_M_code_10 l D ca ad av H50.size  ) (va_cwS 1 hts (gdS k_10_191 k_10_192 k_1_9 k_10_193) rfl rfl rfl (by decide +kernel) ⟨Nat.le_of_ble_eq_true rfl, Nat.le_of_ble_eq_true rfl⟩) (gPS hP50 hD50 hK hS50 hA hX [] (by decide) rfl [.ref (ad 11)]) rfl rfl hl.1 rfl (lv_room (Nat.le_of_ble_eq_true rfl)) d_15_11_207 ⟨Nat.le_of_ble_eq_true rfl, Nat.le_of_ble_eq_true rfl⟩) hS50 (fun q _ h => hFc51 q h) hFc51 (fun r51 u51 t51 H51 locs51 ht51 hvm51 hw51 hB51 hz51 hk51 hS51 => ?_)
  have hr51 := hw51
  obtain ⟨hP51, hD51⟩ := gJoin (wr := [(a0, .inr (14, rg 107 f36)), (q2, .inl (ca 2, 3000, .inl f2)), (q4, .inl (ca 2, 20, .inl f4)), (q6, .inl (ca 5, 2, .inr (.inr (.inr (.inr f12))))), (q7, .inr (13, rg 81 x8_0)), (q10, .inr (13, rg 81 x11_0)), (q14, .inr (13, rg 81 x15_0)), (q17, .inl (ca 0, 3001, .inl f17)), (q19, .inl (ca 0, 3001, .inl f19)), (q38, .inl (ca 1, 8, .inr (.inl f50)))]) (w1 := []) hP50 hD50 [] [0, 1, 2, 3, 4, 5, 6, 7, 8, 9] rfl rfl (by decide) (by decide) hk51 hFc51 ht51 hB51
  have hP51 : va_P D cls [(a0, .inr (14, rg 107 f36)), (q2, .inl (ca 2, 3000, .inl f2)), (q4, .inl (ca 2, 20, .inl f4)), (q6, .inl (ca 5, 2, .inr (.inr (.inr (.inr f12))))), (q7, .inr (13, rg 81 x8_0)), (q10, .inr (13, rg 81 x11_0)), (q14, .inr (13, rg 81 x15_0)), (q17, .inl (ca 0, 3001, .inl f17)), (q19, .inl (ca 0, 3001, .inl f19)), (q38, .inl (ca 1, 8, .inr (.inl f50)))] H51 := hP51
  have hD51 : va_D A [(a0, .inr (14, rg 107 f36)), (q2, .inl (ca 2, 3000, .inl f2)), (q4, .inl (ca 2, 20, .inl f4)), (q6, .inl (ca 5, 2, .inr (.inr (.inr (.inr f12))))), (q7, .inr (13, rg 81 x8_0)), (q10, .inr (13, rg 81 x11_0)), (q14, .inr (13, rg 81 x15_0)), (q17, .inl (ca 0, 3001, .inl f17)), (q19, .inl (ca 0, 3001, .inl f19)), (q38, .inl (ca 1, 8, .inr (.inl f50)))] := hD51
  refine W.widen (k := 196) (n := 578157) (Nat.le_of_ble_eq_true rfl) (Nat.le_of_ble_eq_true rfl) ?_
  subst hr51
  refine glastX hx hb hK hP51 hD51 hS51 9 1 rfl rfl (vinC (by decide)) d_15_11_210 (fun f52 H52 locs52 hP52 hD52 hS52 => ?_)
  have hF52 : gF f52 [] := gF_nil
  have hP52 : va_P D cls [(a0, .inr (14, rg 107 f36)), (q2, .inl (ca 2, 3000, .inl f2)), (q4, .inl (ca 2, 20, .inl f4)), (q6, .inl (ca 5, 2, .inr (.inr (.inr (.inr f12))))), (q7, .inr (13, rg 81 x8_0)), (q10, .inr (13, rg 81 x11_0)), (q14, .inr (13, rg 81 x15_0)), (q17, .inl (ca 0, 3001, .inl f17)), (q19, .inl (ca 0, 3001, .inl f19)), (q38, .inl (ca 1, 8, .inr (.inl f52)))] H52 := hP52
  have hD52 : va_D A [(a0, .inr (14, rg 107 f36)), (q2, .inl (ca 2, 3000, .inl f2)), (q4, .inl (ca 2, 20, .inl f4)), (q6, .inl (ca 5, 2, .inr (.inr (.inr (.inr f12))))), (q7, .inr (13, rg 81 x8_0)), (q10, .inr (13, rg 81 x11_0)), (q14, .inr (13, rg 81 x15_0)), (q17, .inl (ca 0, 3001, .inl f17)), (q19, .inl (ca 0, 3001, .inl f19)), (q38, .inl (ca 1, 8, .inr (.inl f52)))] := hD52
  clear hP51 hD51 hS51 hF50
  refine lv_dup hx hb d_15_11_211 rfl ?_
  refine lv_bipush (v := 7) hx hb d_15_11_212 (by decide) ?_
  refine va_ldcS hx hb hown (hX.2.2.2.2.1 12 _ rfl).1 d_15_11_214 ?_
  have hFc53 := va_free (wc := []) hD52 hS52 hA [] rfl
  refine va_calll (va_runS (As := [.ref (ad 12)]) (rest := [.int 7, .ref q38, .ref q38, .ref a0]) ⟨hx, hb, hml, hown, hts⟩ (c_M_code_11 l D ca ad av H52.size  ) (va_cwS 1 hts (gdS k_10_191 k_10_192 k_1_9 k_10_193) rfl rfl rfl (by decide +kernel) ⟨Nat.le_of_ble_eq_true rfl, Nat.le_of_ble_eq_true rfl⟩) (gPS hP52 hD52 hK hS52 hA hX [] (by decide) rfl [.ref (ad 12)]) rfl rfl hl.1 rfl (lv_room (Nat.le_of_ble_eq_true rfl)) d_15_11_216 ⟨Nat.le_of_ble_eq_true rfl, Nat.le_of_ble_eq_true rfl⟩) hS52 (fun q _ h => hFc53 q h) hFc53 (fun r53 u53 t53 H53 locs53 ht53 hvm53 hw53 hB53 hz53 hk53 hS53 => ?_)
  have hr53 := hw53
  obtain ⟨hP53, hD53⟩ := gJoin (wr := [(a0, .inr (14, rg 107 f36)), (q2, .inl (ca 2, 3000, .inl f2)), (q4, .inl (ca 2, 20, .inl f4)), (q6, .inl (ca 5, 2, .inr (.inr (.inr (.inr f12))))), (q7, .inr (13, rg 81 x8_0)), (q10, .inr (13, rg 81 x11_0)), (q14, .inr (13, rg 81 x15_0)), (q17, .inl (ca 0, 3001, .inl f17)), (q19, .inl (ca 0, 3001, .inl f19)), (q38, .inl (ca 1, 8, .inr (.inl f52)))]) (w1 := []) hP52 hD52 [] [0, 1, 2, 3, 4, 5, 6, 7, 8, 9] rfl rfl (by decide) (by decide) hk53 hFc53 ht53 hB53
  have hP53 : va_P D cls [(a0, .inr (14, rg 107 f36)), (q2, .inl (ca 2, 3000, .inl f2)), (q4, .inl (ca 2, 20, .inl f4)), (q6, .inl (ca 5, 2, .inr (.inr (.inr (.inr f12))))), (q7, .inr (13, rg 81 x8_0)), (q10, .inr (13, rg 81 x11_0)), (q14, .inr (13, rg 81 x15_0)), (q17, .inl (ca 0, 3001, .inl f17)), (q19, .inl (ca 0, 3001, .inl f19)), (q38, .inl (ca 1, 8, .inr (.inl f52)))] H53 := hP53
  have hD53 : va_D A [(a0, .inr (14, rg 107 f36)), (q2, .inl (ca 2, 3000, .inl f2)), (q4, .inl (ca 2, 20, .inl f4)), (q6, .inl (ca 5, 2, .inr (.inr (.inr (.inr f12))))), (q7, .inr (13, rg 81 x8_0)), (q10, .inr (13, rg 81 x11_0)), (q14, .inr (13, rg 81 x15_0)), (q17, .inl (ca 0, 3001, .inl f17)), (q19, .inl (ca 0, 3001, .inl f19)), (q38, .inl (ca 1, 8, .inr (.inl f52)))] := hD53
  refine W.widen (k := 196) (n := 578157) (Nat.le_of_ble_eq_true rfl) (Nat.le_of_ble_eq_true rfl) ?_
  subst hr53
  refine glastX hx hb hK hP53 hD53 hS53 9 1 rfl rfl (vinC (by decide)) d_15_11_219 (fun f54 H54 locs54 hP54 hD54 hS54 => ?_)
  have hF54 : gF f54 [] := gF_nil
  have hP54 : va_P D cls [(a0, .inr (14, rg 107 f36)), (q2, .inl (ca 2, 3000, .inl f2)), (q4, .inl (ca 2, 20, .inl f4)), (q6, .inl (ca 5, 2, .inr (.inr (.inr (.inr f12))))), (q7, .inr (13, rg 81 x8_0)), (q10, .inr (13, rg 81 x11_0)), (q14, .inr (13, rg 81 x15_0)), (q17, .inl (ca 0, 3001, .inl f17)), (q19, .inl (ca 0, 3001, .inl f19)), (q38, .inl (ca 1, 8, .inr (.inl f54)))] H54 := hP54
  have hD54 : va_D A [(a0, .inr (14, rg 107 f36)), (q2, .inl (ca 2, 3000, .inl f2)), (q4, .inl (ca 2, 20, .inl f4)), (q6, .inl (ca 5, 2, .inr (.inr (.inr (.inr f12))))), (q7, .inr (13, rg 81 x8_0)), (q10, .inr (13, rg 81 x11_0)), (q14, .inr (13, rg 81 x15_0)), (q17, .inl (ca 0, 3001, .inl f17)), (q19, .inl (ca 0, 3001, .inl f19)), (q38, .inl (ca 1, 8, .inr (.inl f54)))] := hD54
  clear hP53 hD53 hS53 hF52
  refine gputFX hx hb hts inW_14 tyX14 tyX14_ok nmX14 hown hK hP54 hD54 hS54 0 rfl rfl hF36 14 (by decide) k_11_12 rfl hnm rfl rfl rfl d_15_11_220 (L' := [(8, .ref q19), (7, .ref q17), (6, .ref q14), (5, .ref q6), (4, .ref q4), (2, .ref q2)]) rfl (fun f55 H55 locs55 hF55 hm55 hP55 hD55 hS55 => ?_)
  have hM55 := gM.tr hM36 hm55
  have hP55 : va_P D cls [(a0, .inr (14, rg 107 f55)), (q2, .inl (ca 2, 3000, .inl f2)), (q4, .inl (ca 2, 20, .inl f4)), (q6, .inl (ca 5, 2, .inr (.inr (.inr (.inr f12))))), (q7, .inr (13, rg 81 x8_0)), (q10, .inr (13, rg 81 x11_0)), (q14, .inr (13, rg 81 x15_0)), (q17, .inl (ca 0, 3001, .inl f17)), (q19, .inl (ca 0, 3001, .inl f19)), (q38, .inl (ca 1, 8, .inr (.inl f54)))] H55 := hP55
  have hD55 : va_D A [(a0, .inr (14, rg 107 f55)), (q2, .inl (ca 2, 3000, .inl f2)), (q4, .inl (ca 2, 20, .inl f4)), (q6, .inl (ca 5, 2, .inr (.inr (.inr (.inr f12))))), (q7, .inr (13, rg 81 x8_0)), (q10, .inr (13, rg 81 x11_0)), (q14, .inr (13, rg 81 x15_0)), (q17, .inl (ca 0, 3001, .inl f17)), (q19, .inl (ca 0, 3001, .inl f19)), (q38, .inl (ca 1, 8, .inr (.inl f54)))] := hD55
  clear hP54 hD54 hS54 hF36 hM36 hm55
  have hP56 := hP55.sub (ws' := [(a0, .inr (14, rg 107 f55)), (q2, .inl (ca 2, 3000, .inl f2)), (q4, .inl (ca 2, 20, .inl f4)), (q6, .inl (ca 5, 2, .inr (.inr (.inr (.inr f12))))), (q7, .inr (13, rg 81 x8_0)), (q10, .inr (13, rg 81 x11_0)), (q14, .inr (13, rg 81 x15_0)), (q17, .inl (ca 0, 3001, .inl f17)), (q19, .inl (ca 0, 3001, .inl f19))]) [0, 1, 2, 3, 4, 5, 6, 7, 8] rfl
  have hD56 := hD55.sub (ws' := [(a0, .inr (14, rg 107 f55)), (q2, .inl (ca 2, 3000, .inl f2)), (q4, .inl (ca 2, 20, .inl f4)), (q6, .inl (ca 5, 2, .inr (.inr (.inr (.inr f12))))), (q7, .inr (13, rg 81 x8_0)), (q10, .inr (13, rg 81 x11_0)), (q14, .inr (13, rg 81 x15_0)), (q17, .inl (ca 0, 3001, .inl f17)), (q19, .inl (ca 0, 3001, .inl f19))]) [0, 1, 2, 3, 4, 5, 6, 7, 8] (by decide) rfl
  refine lv_aload_n hx hb d_15_11_223 rfl (lv_at hl 0 rfl) ?_
  refine lv_bipush (v := 15) hx hb d_15_11_224 (by decide) ?_
  refine gnewa (atype := .long) hx hb hts (ty := .long) rfl k_1_105 hK 1 rfl (fun _ _ => gu_long) hP56 hD56 hS55 hA (a0 := (15, .inr (.inl (fun _ => 0)))) (fun _ => rfl) (by decide) (N' := 15) (by decide) (Nat.le_of_ble_eq_true rfl) (Nat.le_of_ble_eq_true rfl) (Nat.le_of_ble_eq_true rfl) d_15_11_226 (fun q57 H57 hP57 hD57 hS57 => ?_)
  obtain ⟨f57, hF57, hP57, hD57⟩ : ∃ f : Nat → Int64, gF f [] ∧ va_P D cls ([(a0, .inr (14, rg 107 f55)), (q2, .inl (ca 2, 3000, .inl f2)), (q4, .inl (ca 2, 20, .inl f4)), (q6, .inl (ca 5, 2, .inr (.inr (.inr (.inr f12))))), (q7, .inr (13, rg 81 x8_0)), (q10, .inr (13, rg 81 x11_0)), (q14, .inr (13, rg 81 x15_0)), (q17, .inl (ca 0, 3001, .inl f17)), (q19, .inl (ca 0, 3001, .inl f19))] ++ [(q57, .inl (ca 1, 15, .inr (.inl f)))]) H57 ∧ va_D A ([(a0, .inr (14, rg 107 f55)), (q2, .inl (ca 2, 3000, .inl f2)), (q4, .inl (ca 2, 20, .inl f4)), (q6, .inl (ca 5, 2, .inr (.inr (.inr (.inr f12))))), (q7, .inr (13, rg 81 x8_0)), (q10, .inr (13, rg 81 x11_0)), (q14, .inr (13, rg 81 x15_0)), (q17, .inl (ca 0, 3001, .inl f17)), (q19, .inl (ca 0, 3001, .inl f19))] ++ [(q57, .inl (ca 1, 15, .inr (.inl f)))]) := ⟨_, gF_nil, hP57, hD57⟩
  have hP57 : va_P D cls [(a0, .inr (14, rg 107 f55)), (q2, .inl (ca 2, 3000, .inl f2)), (q4, .inl (ca 2, 20, .inl f4)), (q6, .inl (ca 5, 2, .inr (.inr (.inr (.inr f12))))), (q7, .inr (13, rg 81 x8_0)), (q10, .inr (13, rg 81 x11_0)), (q14, .inr (13, rg 81 x15_0)), (q17, .inl (ca 0, 3001, .inl f17)), (q19, .inl (ca 0, 3001, .inl f19)), (q57, .inl (ca 1, 15, .inr (.inl f57)))] H57 := hP57
  have hD57 : va_D A [(a0, .inr (14, rg 107 f55)), (q2, .inl (ca 2, 3000, .inl f2)), (q4, .inl (ca 2, 20, .inl f4)), (q6, .inl (ca 5, 2, .inr (.inr (.inr (.inr f12))))), (q7, .inr (13, rg 81 x8_0)), (q10, .inr (13, rg 81 x11_0)), (q14, .inr (13, rg 81 x15_0)), (q17, .inl (ca 0, 3001, .inl f17)), (q19, .inl (ca 0, 3001, .inl f19)), (q57, .inl (ca 1, 15, .inr (.inl f57)))] := hD57
  refine W.widen (k := 197) (n := 578172) (Nat.le_of_ble_eq_true rfl) (Nat.le_of_ble_eq_true rfl) ?_
  refine lv_dup hx hb d_15_11_228 rfl ?_
  refine lv_iconst (v := 0) hx hb d_15_11_229 (by decide) ?_
  refine va_gets hx hb (hX.2.2.2.1 _ (List.mem_of_getElem? (i := 1) rfl)) hS57 hown (hts _ k_10_207) (fun _ h => h) d_15_11_230 ?_
  refine glastX hx hb hK hP57 hD57 hS57 9 1 rfl rfl (vinC (by decide)) d_15_11_233 (fun f58 H58 locs58 hP58 hD58 hS58 => ?_)
  have hF58 : gF f58 [] := gF_nil
  have hP58 : va_P D cls [(a0, .inr (14, rg 107 f55)), (q2, .inl (ca 2, 3000, .inl f2)), (q4, .inl (ca 2, 20, .inl f4)), (q6, .inl (ca 5, 2, .inr (.inr (.inr (.inr f12))))), (q7, .inr (13, rg 81 x8_0)), (q10, .inr (13, rg 81 x11_0)), (q14, .inr (13, rg 81 x15_0)), (q17, .inl (ca 0, 3001, .inl f17)), (q19, .inl (ca 0, 3001, .inl f19)), (q57, .inl (ca 1, 15, .inr (.inl f58)))] H58 := hP58
  have hD58 : va_D A [(a0, .inr (14, rg 107 f55)), (q2, .inl (ca 2, 3000, .inl f2)), (q4, .inl (ca 2, 20, .inl f4)), (q6, .inl (ca 5, 2, .inr (.inr (.inr (.inr f12))))), (q7, .inr (13, rg 81 x8_0)), (q10, .inr (13, rg 81 x11_0)), (q14, .inr (13, rg 81 x15_0)), (q17, .inl (ca 0, 3001, .inl f17)), (q19, .inl (ca 0, 3001, .inl f19)), (q57, .inl (ca 1, 15, .inr (.inl f58)))] := hD58
  clear hP57 hD57 hS57 hF57
  refine lv_dup hx hb d_15_11_234 rfl ?_
  refine lv_iconst (v := 1) hx hb d_15_11_235 (by decide) ?_
  refine va_gets hx hb (hX.2.2.2.1 _ (List.mem_of_getElem? (i := 2) rfl)) hS58 hown (hts _ k_10_209) (fun _ h => h) d_15_11_236 ?_
  refine glastX hx hb hK hP58 hD58 hS58 9 1 rfl rfl (vinC (by decide)) d_15_11_239 (fun f59 H59 locs59 hP59 hD59 hS59 => ?_)
  have hF59 : gF f59 [] := gF_nil
  have hP59 : va_P D cls [(a0, .inr (14, rg 107 f55)), (q2, .inl (ca 2, 3000, .inl f2)), (q4, .inl (ca 2, 20, .inl f4)), (q6, .inl (ca 5, 2, .inr (.inr (.inr (.inr f12))))), (q7, .inr (13, rg 81 x8_0)), (q10, .inr (13, rg 81 x11_0)), (q14, .inr (13, rg 81 x15_0)), (q17, .inl (ca 0, 3001, .inl f17)), (q19, .inl (ca 0, 3001, .inl f19)), (q57, .inl (ca 1, 15, .inr (.inl f59)))] H59 := hP59
  have hD59 : va_D A [(a0, .inr (14, rg 107 f55)), (q2, .inl (ca 2, 3000, .inl f2)), (q4, .inl (ca 2, 20, .inl f4)), (q6, .inl (ca 5, 2, .inr (.inr (.inr (.inr f12))))), (q7, .inr (13, rg 81 x8_0)), (q10, .inr (13, rg 81 x11_0)), (q14, .inr (13, rg 81 x15_0)), (q17, .inl (ca 0, 3001, .inl f17)), (q19, .inl (ca 0, 3001, .inl f19)), (q57, .inl (ca 1, 15, .inr (.inl f59)))] := hD59
  clear hP58 hD58 hS58 hF58
  refine lv_dup hx hb d_15_11_240 rfl ?_
  refine lv_iconst (v := 2) hx hb d_15_11_241 (by decide) ?_
  refine va_gets hx hb (hX.2.2.2.1 _ (List.mem_of_getElem? (i := 3) rfl)) hS59 hown (hts _ k_10_211) (fun _ h => h) d_15_11_242 ?_
  refine glastX hx hb hK hP59 hD59 hS59 9 1 rfl rfl (vinC (by decide)) d_15_11_245 (fun f60 H60 locs60 hP60 hD60 hS60 => ?_)
  have hF60 : gF f60 [] := gF_nil
  have hP60 : va_P D cls [(a0, .inr (14, rg 107 f55)), (q2, .inl (ca 2, 3000, .inl f2)), (q4, .inl (ca 2, 20, .inl f4)), (q6, .inl (ca 5, 2, .inr (.inr (.inr (.inr f12))))), (q7, .inr (13, rg 81 x8_0)), (q10, .inr (13, rg 81 x11_0)), (q14, .inr (13, rg 81 x15_0)), (q17, .inl (ca 0, 3001, .inl f17)), (q19, .inl (ca 0, 3001, .inl f19)), (q57, .inl (ca 1, 15, .inr (.inl f60)))] H60 := hP60
  have hD60 : va_D A [(a0, .inr (14, rg 107 f55)), (q2, .inl (ca 2, 3000, .inl f2)), (q4, .inl (ca 2, 20, .inl f4)), (q6, .inl (ca 5, 2, .inr (.inr (.inr (.inr f12))))), (q7, .inr (13, rg 81 x8_0)), (q10, .inr (13, rg 81 x11_0)), (q14, .inr (13, rg 81 x15_0)), (q17, .inl (ca 0, 3001, .inl f17)), (q19, .inl (ca 0, 3001, .inl f19)), (q57, .inl (ca 1, 15, .inr (.inl f60)))] := hD60
  clear hP59 hD59 hS59 hF59
  refine lv_dup hx hb d_15_11_246 rfl ?_
  refine lv_iconst (v := 3) hx hb d_15_11_247 (by decide) ?_
  refine va_gets hx hb (hX.2.2.2.1 _ (List.mem_of_getElem? (i := 4) rfl)) hS60 hown (hts _ k_10_213) (fun _ h => h) d_15_11_248 ?_
  refine glastX hx hb hK hP60 hD60 hS60 9 1 rfl rfl (vinC (by decide)) d_15_11_251 (fun f61 H61 locs61 hP61 hD61 hS61 => ?_)
  have hF61 : gF f61 [] := gF_nil
  have hP61 : va_P D cls [(a0, .inr (14, rg 107 f55)), (q2, .inl (ca 2, 3000, .inl f2)), (q4, .inl (ca 2, 20, .inl f4)), (q6, .inl (ca 5, 2, .inr (.inr (.inr (.inr f12))))), (q7, .inr (13, rg 81 x8_0)), (q10, .inr (13, rg 81 x11_0)), (q14, .inr (13, rg 81 x15_0)), (q17, .inl (ca 0, 3001, .inl f17)), (q19, .inl (ca 0, 3001, .inl f19)), (q57, .inl (ca 1, 15, .inr (.inl f61)))] H61 := hP61
  have hD61 : va_D A [(a0, .inr (14, rg 107 f55)), (q2, .inl (ca 2, 3000, .inl f2)), (q4, .inl (ca 2, 20, .inl f4)), (q6, .inl (ca 5, 2, .inr (.inr (.inr (.inr f12))))), (q7, .inr (13, rg 81 x8_0)), (q10, .inr (13, rg 81 x11_0)), (q14, .inr (13, rg 81 x15_0)), (q17, .inl (ca 0, 3001, .inl f17)), (q19, .inl (ca 0, 3001, .inl f19)), (q57, .inl (ca 1, 15, .inr (.inl f61)))] := hD61
  clear hP60 hD60 hS60 hF60
  refine lv_dup hx hb d_15_11_252 rfl ?_
  refine lv_iconst (v := 4) hx hb d_15_11_253 (by decide) ?_
  refine va_gets hx hb (hX.2.2.2.1 _ (List.mem_of_getElem? (i := 5) rfl)) hS61 hown (hts _ k_10_215) (fun _ h => h) d_15_11_254 ?_
  refine glastX hx hb hK hP61 hD61 hS61 9 1 rfl rfl (vinC (by decide)) d_15_11_257 (fun f62 H62 locs62 hP62 hD62 hS62 => ?_)
  have hF62 : gF f62 [] := gF_nil
  have hP62 : va_P D cls [(a0, .inr (14, rg 107 f55)), (q2, .inl (ca 2, 3000, .inl f2)), (q4, .inl (ca 2, 20, .inl f4)), (q6, .inl (ca 5, 2, .inr (.inr (.inr (.inr f12))))), (q7, .inr (13, rg 81 x8_0)), (q10, .inr (13, rg 81 x11_0)), (q14, .inr (13, rg 81 x15_0)), (q17, .inl (ca 0, 3001, .inl f17)), (q19, .inl (ca 0, 3001, .inl f19)), (q57, .inl (ca 1, 15, .inr (.inl f62)))] H62 := hP62
  have hD62 : va_D A [(a0, .inr (14, rg 107 f55)), (q2, .inl (ca 2, 3000, .inl f2)), (q4, .inl (ca 2, 20, .inl f4)), (q6, .inl (ca 5, 2, .inr (.inr (.inr (.inr f12))))), (q7, .inr (13, rg 81 x8_0)), (q10, .inr (13, rg 81 x11_0)), (q14, .inr (13, rg 81 x15_0)), (q17, .inl (ca 0, 3001, .inl f17)), (q19, .inl (ca 0, 3001, .inl f19)), (q57, .inl (ca 1, 15, .inr (.inl f62)))] := hD62
  clear hP61 hD61 hS61 hF61
  refine lv_dup hx hb d_15_11_258 rfl ?_
  refine lv_iconst (v := 5) hx hb d_15_11_259 (by decide) ?_
  refine va_gets hx hb (hX.2.2.2.1 _ (List.mem_of_getElem? (i := 6) rfl)) hS62 hown (hts _ k_10_217) (fun _ h => h) d_15_11_260 ?_
  refine glastX hx hb hK hP62 hD62 hS62 9 1 rfl rfl (vinC (by decide)) d_15_11_263 (fun f63 H63 locs63 hP63 hD63 hS63 => ?_)
  have hF63 : gF f63 [] := gF_nil
  have hP63 : va_P D cls [(a0, .inr (14, rg 107 f55)), (q2, .inl (ca 2, 3000, .inl f2)), (q4, .inl (ca 2, 20, .inl f4)), (q6, .inl (ca 5, 2, .inr (.inr (.inr (.inr f12))))), (q7, .inr (13, rg 81 x8_0)), (q10, .inr (13, rg 81 x11_0)), (q14, .inr (13, rg 81 x15_0)), (q17, .inl (ca 0, 3001, .inl f17)), (q19, .inl (ca 0, 3001, .inl f19)), (q57, .inl (ca 1, 15, .inr (.inl f63)))] H63 := hP63
  have hD63 : va_D A [(a0, .inr (14, rg 107 f55)), (q2, .inl (ca 2, 3000, .inl f2)), (q4, .inl (ca 2, 20, .inl f4)), (q6, .inl (ca 5, 2, .inr (.inr (.inr (.inr f12))))), (q7, .inr (13, rg 81 x8_0)), (q10, .inr (13, rg 81 x11_0)), (q14, .inr (13, rg 81 x15_0)), (q17, .inl (ca 0, 3001, .inl f17)), (q19, .inl (ca 0, 3001, .inl f19)), (q57, .inl (ca 1, 15, .inr (.inl f63)))] := hD63
  clear hP62 hD62 hS62 hF62
  refine lv_dup hx hb d_15_11_264 rfl ?_
  refine lv_bipush (v := 6) hx hb d_15_11_265 (by decide) ?_
  refine va_gets hx hb (hX.2.2.2.1 _ (List.mem_of_getElem? (i := 7) rfl)) hS63 hown (hts _ k_10_219) (fun _ h => h) d_15_11_267 ?_
  refine glastX hx hb hK hP63 hD63 hS63 9 1 rfl rfl (vinC (by decide)) d_15_11_270 (fun f64 H64 locs64 hP64 hD64 hS64 => ?_)
  have hF64 : gF f64 [] := gF_nil
  have hP64 : va_P D cls [(a0, .inr (14, rg 107 f55)), (q2, .inl (ca 2, 3000, .inl f2)), (q4, .inl (ca 2, 20, .inl f4)), (q6, .inl (ca 5, 2, .inr (.inr (.inr (.inr f12))))), (q7, .inr (13, rg 81 x8_0)), (q10, .inr (13, rg 81 x11_0)), (q14, .inr (13, rg 81 x15_0)), (q17, .inl (ca 0, 3001, .inl f17)), (q19, .inl (ca 0, 3001, .inl f19)), (q57, .inl (ca 1, 15, .inr (.inl f64)))] H64 := hP64
  have hD64 : va_D A [(a0, .inr (14, rg 107 f55)), (q2, .inl (ca 2, 3000, .inl f2)), (q4, .inl (ca 2, 20, .inl f4)), (q6, .inl (ca 5, 2, .inr (.inr (.inr (.inr f12))))), (q7, .inr (13, rg 81 x8_0)), (q10, .inr (13, rg 81 x11_0)), (q14, .inr (13, rg 81 x15_0)), (q17, .inl (ca 0, 3001, .inl f17)), (q19, .inl (ca 0, 3001, .inl f19)), (q57, .inl (ca 1, 15, .inr (.inl f64)))] := hD64
  clear hP63 hD63 hS63 hF63
  refine lv_dup hx hb d_15_11_271 rfl ?_
  refine lv_bipush (v := 7) hx hb d_15_11_272 (by decide) ?_
  refine va_gets hx hb (hX.2.2.2.1 _ (List.mem_of_getElem? (i := 8) rfl)) hS64 hown (hts _ k_10_221) (fun _ h => h) d_15_11_274 ?_
  refine glastX hx hb hK hP64 hD64 hS64 9 1 rfl rfl (vinC (by decide)) d_15_11_277 (fun f65 H65 locs65 hP65 hD65 hS65 => ?_)
  have hF65 : gF f65 [] := gF_nil
  have hP65 : va_P D cls [(a0, .inr (14, rg 107 f55)), (q2, .inl (ca 2, 3000, .inl f2)), (q4, .inl (ca 2, 20, .inl f4)), (q6, .inl (ca 5, 2, .inr (.inr (.inr (.inr f12))))), (q7, .inr (13, rg 81 x8_0)), (q10, .inr (13, rg 81 x11_0)), (q14, .inr (13, rg 81 x15_0)), (q17, .inl (ca 0, 3001, .inl f17)), (q19, .inl (ca 0, 3001, .inl f19)), (q57, .inl (ca 1, 15, .inr (.inl f65)))] H65 := hP65
  have hD65 : va_D A [(a0, .inr (14, rg 107 f55)), (q2, .inl (ca 2, 3000, .inl f2)), (q4, .inl (ca 2, 20, .inl f4)), (q6, .inl (ca 5, 2, .inr (.inr (.inr (.inr f12))))), (q7, .inr (13, rg 81 x8_0)), (q10, .inr (13, rg 81 x11_0)), (q14, .inr (13, rg 81 x15_0)), (q17, .inl (ca 0, 3001, .inl f17)), (q19, .inl (ca 0, 3001, .inl f19)), (q57, .inl (ca 1, 15, .inr (.inl f65)))] := hD65
  clear hP64 hD64 hS64 hF64
  refine lv_dup hx hb d_15_11_278 rfl ?_
  refine lv_bipush (v := 8) hx hb d_15_11_279 (by decide) ?_
  refine va_gets hx hb (hX.2.2.2.1 _ (List.mem_of_getElem? (i := 9) rfl)) hS65 hown (hts _ k_10_223) (fun _ h => h) d_15_11_281 ?_
  refine glastX hx hb hK hP65 hD65 hS65 9 1 rfl rfl (vinC (by decide)) d_15_11_284 (fun f66 H66 locs66 hP66 hD66 hS66 => ?_)
  have hF66 : gF f66 [] := gF_nil
  have hP66 : va_P D cls [(a0, .inr (14, rg 107 f55)), (q2, .inl (ca 2, 3000, .inl f2)), (q4, .inl (ca 2, 20, .inl f4)), (q6, .inl (ca 5, 2, .inr (.inr (.inr (.inr f12))))), (q7, .inr (13, rg 81 x8_0)), (q10, .inr (13, rg 81 x11_0)), (q14, .inr (13, rg 81 x15_0)), (q17, .inl (ca 0, 3001, .inl f17)), (q19, .inl (ca 0, 3001, .inl f19)), (q57, .inl (ca 1, 15, .inr (.inl f66)))] H66 := hP66
  have hD66 : va_D A [(a0, .inr (14, rg 107 f55)), (q2, .inl (ca 2, 3000, .inl f2)), (q4, .inl (ca 2, 20, .inl f4)), (q6, .inl (ca 5, 2, .inr (.inr (.inr (.inr f12))))), (q7, .inr (13, rg 81 x8_0)), (q10, .inr (13, rg 81 x11_0)), (q14, .inr (13, rg 81 x15_0)), (q17, .inl (ca 0, 3001, .inl f17)), (q19, .inl (ca 0, 3001, .inl f19)), (q57, .inl (ca 1, 15, .inr (.inl f66)))] := hD66
  clear hP65 hD65 hS65 hF65
  refine lv_dup hx hb d_15_11_285 rfl ?_
  refine lv_bipush (v := 9) hx hb d_15_11_286 (by decide) ?_
  refine va_gets hx hb (hX.2.2.2.1 _ (List.mem_of_getElem? (i := 10) rfl)) hS66 hown (hts _ k_10_225) (fun _ h => h) d_15_11_288 ?_
  refine glastX hx hb hK hP66 hD66 hS66 9 1 rfl rfl (vinC (by decide)) d_15_11_291 (fun f67 H67 locs67 hP67 hD67 hS67 => ?_)
  have hF67 : gF f67 [] := gF_nil
  have hP67 : va_P D cls [(a0, .inr (14, rg 107 f55)), (q2, .inl (ca 2, 3000, .inl f2)), (q4, .inl (ca 2, 20, .inl f4)), (q6, .inl (ca 5, 2, .inr (.inr (.inr (.inr f12))))), (q7, .inr (13, rg 81 x8_0)), (q10, .inr (13, rg 81 x11_0)), (q14, .inr (13, rg 81 x15_0)), (q17, .inl (ca 0, 3001, .inl f17)), (q19, .inl (ca 0, 3001, .inl f19)), (q57, .inl (ca 1, 15, .inr (.inl f67)))] H67 := hP67
  have hD67 : va_D A [(a0, .inr (14, rg 107 f55)), (q2, .inl (ca 2, 3000, .inl f2)), (q4, .inl (ca 2, 20, .inl f4)), (q6, .inl (ca 5, 2, .inr (.inr (.inr (.inr f12))))), (q7, .inr (13, rg 81 x8_0)), (q10, .inr (13, rg 81 x11_0)), (q14, .inr (13, rg 81 x15_0)), (q17, .inl (ca 0, 3001, .inl f17)), (q19, .inl (ca 0, 3001, .inl f19)), (q57, .inl (ca 1, 15, .inr (.inl f67)))] := hD67
  clear hP66 hD66 hS66 hF66
  refine lv_dup hx hb d_15_11_292 rfl ?_
  refine lv_bipush (v := 10) hx hb d_15_11_293 (by decide) ?_
  refine va_gets hx hb (hX.2.2.2.1 _ (List.mem_of_getElem? (i := 11) rfl)) hS67 hown (hts _ k_10_227) (fun _ h => h) d_15_11_295 ?_
  refine glastX hx hb hK hP67 hD67 hS67 9 1 rfl rfl (vinC (by decide)) d_15_11_298 (fun f68 H68 locs68 hP68 hD68 hS68 => ?_)
  have hF68 : gF f68 [] := gF_nil
  have hP68 : va_P D cls [(a0, .inr (14, rg 107 f55)), (q2, .inl (ca 2, 3000, .inl f2)), (q4, .inl (ca 2, 20, .inl f4)), (q6, .inl (ca 5, 2, .inr (.inr (.inr (.inr f12))))), (q7, .inr (13, rg 81 x8_0)), (q10, .inr (13, rg 81 x11_0)), (q14, .inr (13, rg 81 x15_0)), (q17, .inl (ca 0, 3001, .inl f17)), (q19, .inl (ca 0, 3001, .inl f19)), (q57, .inl (ca 1, 15, .inr (.inl f68)))] H68 := hP68
  have hD68 : va_D A [(a0, .inr (14, rg 107 f55)), (q2, .inl (ca 2, 3000, .inl f2)), (q4, .inl (ca 2, 20, .inl f4)), (q6, .inl (ca 5, 2, .inr (.inr (.inr (.inr f12))))), (q7, .inr (13, rg 81 x8_0)), (q10, .inr (13, rg 81 x11_0)), (q14, .inr (13, rg 81 x15_0)), (q17, .inl (ca 0, 3001, .inl f17)), (q19, .inl (ca 0, 3001, .inl f19)), (q57, .inl (ca 1, 15, .inr (.inl f68)))] := hD68
  clear hP67 hD67 hS67 hF67
  refine lv_dup hx hb d_15_11_299 rfl ?_
  refine lv_bipush (v := 11) hx hb d_15_11_300 (by decide) ?_
  refine va_gets hx hb (hX.2.2.2.1 _ (List.mem_of_getElem? (i := 12) rfl)) hS68 hown (hts _ k_10_229) (fun _ h => h) d_15_11_302 ?_
  refine glastX hx hb hK hP68 hD68 hS68 9 1 rfl rfl (vinC (by decide)) d_15_11_305 (fun f69 H69 locs69 hP69 hD69 hS69 => ?_)
  have hF69 : gF f69 [] := gF_nil
  have hP69 : va_P D cls [(a0, .inr (14, rg 107 f55)), (q2, .inl (ca 2, 3000, .inl f2)), (q4, .inl (ca 2, 20, .inl f4)), (q6, .inl (ca 5, 2, .inr (.inr (.inr (.inr f12))))), (q7, .inr (13, rg 81 x8_0)), (q10, .inr (13, rg 81 x11_0)), (q14, .inr (13, rg 81 x15_0)), (q17, .inl (ca 0, 3001, .inl f17)), (q19, .inl (ca 0, 3001, .inl f19)), (q57, .inl (ca 1, 15, .inr (.inl f69)))] H69 := hP69
  have hD69 : va_D A [(a0, .inr (14, rg 107 f55)), (q2, .inl (ca 2, 3000, .inl f2)), (q4, .inl (ca 2, 20, .inl f4)), (q6, .inl (ca 5, 2, .inr (.inr (.inr (.inr f12))))), (q7, .inr (13, rg 81 x8_0)), (q10, .inr (13, rg 81 x11_0)), (q14, .inr (13, rg 81 x15_0)), (q17, .inl (ca 0, 3001, .inl f17)), (q19, .inl (ca 0, 3001, .inl f19)), (q57, .inl (ca 1, 15, .inr (.inl f69)))] := hD69
  clear hP68 hD68 hS68 hF68
  refine lv_dup hx hb d_15_11_306 rfl ?_
  refine lv_bipush (v := 12) hx hb d_15_11_307 (by decide) ?_
  refine va_gets hx hb (hX.2.2.2.1 _ (List.mem_of_getElem? (i := 13) rfl)) hS69 hown (hts _ k_10_231) (fun _ h => h) d_15_11_309 ?_
  refine glastX hx hb hK hP69 hD69 hS69 9 1 rfl rfl (vinC (by decide)) d_15_11_312 (fun f70 H70 locs70 hP70 hD70 hS70 => ?_)
  have hF70 : gF f70 [] := gF_nil
  have hP70 : va_P D cls [(a0, .inr (14, rg 107 f55)), (q2, .inl (ca 2, 3000, .inl f2)), (q4, .inl (ca 2, 20, .inl f4)), (q6, .inl (ca 5, 2, .inr (.inr (.inr (.inr f12))))), (q7, .inr (13, rg 81 x8_0)), (q10, .inr (13, rg 81 x11_0)), (q14, .inr (13, rg 81 x15_0)), (q17, .inl (ca 0, 3001, .inl f17)), (q19, .inl (ca 0, 3001, .inl f19)), (q57, .inl (ca 1, 15, .inr (.inl f70)))] H70 := hP70
  have hD70 : va_D A [(a0, .inr (14, rg 107 f55)), (q2, .inl (ca 2, 3000, .inl f2)), (q4, .inl (ca 2, 20, .inl f4)), (q6, .inl (ca 5, 2, .inr (.inr (.inr (.inr f12))))), (q7, .inr (13, rg 81 x8_0)), (q10, .inr (13, rg 81 x11_0)), (q14, .inr (13, rg 81 x15_0)), (q17, .inl (ca 0, 3001, .inl f17)), (q19, .inl (ca 0, 3001, .inl f19)), (q57, .inl (ca 1, 15, .inr (.inl f70)))] := hD70
  clear hP69 hD69 hS69 hF69
  refine lv_dup hx hb d_15_11_313 rfl ?_
  refine lv_bipush (v := 13) hx hb d_15_11_314 (by decide) ?_
  refine va_gets hx hb (hX.2.2.2.1 _ (List.mem_of_getElem? (i := 14) rfl)) hS70 hown (hts _ k_10_233) (fun _ h => h) d_15_11_316 ?_
  refine glastX hx hb hK hP70 hD70 hS70 9 1 rfl rfl (vinC (by decide)) d_15_11_319 (fun f71 H71 locs71 hP71 hD71 hS71 => ?_)
  have hF71 : gF f71 [] := gF_nil
  have hP71 : va_P D cls [(a0, .inr (14, rg 107 f55)), (q2, .inl (ca 2, 3000, .inl f2)), (q4, .inl (ca 2, 20, .inl f4)), (q6, .inl (ca 5, 2, .inr (.inr (.inr (.inr f12))))), (q7, .inr (13, rg 81 x8_0)), (q10, .inr (13, rg 81 x11_0)), (q14, .inr (13, rg 81 x15_0)), (q17, .inl (ca 0, 3001, .inl f17)), (q19, .inl (ca 0, 3001, .inl f19)), (q57, .inl (ca 1, 15, .inr (.inl f71)))] H71 := hP71
  have hD71 : va_D A [(a0, .inr (14, rg 107 f55)), (q2, .inl (ca 2, 3000, .inl f2)), (q4, .inl (ca 2, 20, .inl f4)), (q6, .inl (ca 5, 2, .inr (.inr (.inr (.inr f12))))), (q7, .inr (13, rg 81 x8_0)), (q10, .inr (13, rg 81 x11_0)), (q14, .inr (13, rg 81 x15_0)), (q17, .inl (ca 0, 3001, .inl f17)), (q19, .inl (ca 0, 3001, .inl f19)), (q57, .inl (ca 1, 15, .inr (.inl f71)))] := hD71
  clear hP70 hD70 hS70 hF70
  refine lv_dup hx hb d_15_11_320 rfl ?_
  refine lv_bipush (v := 14) hx hb d_15_11_321 (by decide) ?_
  refine va_gets hx hb (hX.2.2.2.1 _ (List.mem_of_getElem? (i := 15) rfl)) hS71 hown (hts _ k_10_235) (fun _ h => h) d_15_11_323 ?_
  refine glastX hx hb hK hP71 hD71 hS71 9 1 rfl rfl (vinC (by decide)) d_15_11_326 (fun f72 H72 locs72 hP72 hD72 hS72 => ?_)
  have hF72 : gF f72 [] := gF_nil
  have hP72 : va_P D cls [(a0, .inr (14, rg 107 f55)), (q2, .inl (ca 2, 3000, .inl f2)), (q4, .inl (ca 2, 20, .inl f4)), (q6, .inl (ca 5, 2, .inr (.inr (.inr (.inr f12))))), (q7, .inr (13, rg 81 x8_0)), (q10, .inr (13, rg 81 x11_0)), (q14, .inr (13, rg 81 x15_0)), (q17, .inl (ca 0, 3001, .inl f17)), (q19, .inl (ca 0, 3001, .inl f19)), (q57, .inl (ca 1, 15, .inr (.inl f72)))] H72 := hP72
  have hD72 : va_D A [(a0, .inr (14, rg 107 f55)), (q2, .inl (ca 2, 3000, .inl f2)), (q4, .inl (ca 2, 20, .inl f4)), (q6, .inl (ca 5, 2, .inr (.inr (.inr (.inr f12))))), (q7, .inr (13, rg 81 x8_0)), (q10, .inr (13, rg 81 x11_0)), (q14, .inr (13, rg 81 x15_0)), (q17, .inl (ca 0, 3001, .inl f17)), (q19, .inl (ca 0, 3001, .inl f19)), (q57, .inl (ca 1, 15, .inr (.inl f72)))] := hD72
  clear hP71 hD71 hS71 hF71
  refine gputFX hx hb hts inW_14 tyX14 tyX14_ok nmX14 hown hK hP72 hD72 hS72 0 rfl rfl hF55 15 (by decide) k_11_13 rfl hnm rfl rfl rfl d_15_11_327 (L' := [(8, .ref q19), (7, .ref q17), (6, .ref q14), (5, .ref q6), (4, .ref q4), (2, .ref q2)]) rfl (fun f73 H73 locs73 hF73 hm73 hP73 hD73 hS73 => ?_)
  have hM73 := gM.tr hM55 hm73
  have hP73 : va_P D cls [(a0, .inr (14, rg 107 f73)), (q2, .inl (ca 2, 3000, .inl f2)), (q4, .inl (ca 2, 20, .inl f4)), (q6, .inl (ca 5, 2, .inr (.inr (.inr (.inr f12))))), (q7, .inr (13, rg 81 x8_0)), (q10, .inr (13, rg 81 x11_0)), (q14, .inr (13, rg 81 x15_0)), (q17, .inl (ca 0, 3001, .inl f17)), (q19, .inl (ca 0, 3001, .inl f19)), (q57, .inl (ca 1, 15, .inr (.inl f72)))] H73 := hP73
  have hD73 : va_D A [(a0, .inr (14, rg 107 f73)), (q2, .inl (ca 2, 3000, .inl f2)), (q4, .inl (ca 2, 20, .inl f4)), (q6, .inl (ca 5, 2, .inr (.inr (.inr (.inr f12))))), (q7, .inr (13, rg 81 x8_0)), (q10, .inr (13, rg 81 x11_0)), (q14, .inr (13, rg 81 x15_0)), (q17, .inl (ca 0, 3001, .inl f17)), (q19, .inl (ca 0, 3001, .inl f19)), (q57, .inl (ca 1, 15, .inr (.inl f72)))] := hD73
  clear hP72 hD72 hS72 hF55 hM55 hm73
  have hP74 := hP73.sub (ws' := [(a0, .inr (14, rg 107 f73)), (q2, .inl (ca 2, 3000, .inl f2)), (q4, .inl (ca 2, 20, .inl f4)), (q6, .inl (ca 5, 2, .inr (.inr (.inr (.inr f12))))), (q7, .inr (13, rg 81 x8_0)), (q10, .inr (13, rg 81 x11_0)), (q14, .inr (13, rg 81 x15_0)), (q17, .inl (ca 0, 3001, .inl f17)), (q19, .inl (ca 0, 3001, .inl f19))]) [0, 1, 2, 3, 4, 5, 6, 7, 8] rfl
  have hD74 := hD73.sub (ws' := [(a0, .inr (14, rg 107 f73)), (q2, .inl (ca 2, 3000, .inl f2)), (q4, .inl (ca 2, 20, .inl f4)), (q6, .inl (ca 5, 2, .inr (.inr (.inr (.inr f12))))), (q7, .inr (13, rg 81 x8_0)), (q10, .inr (13, rg 81 x11_0)), (q14, .inr (13, rg 81 x15_0)), (q17, .inl (ca 0, 3001, .inl f17)), (q19, .inl (ca 0, 3001, .inl f19))]) [0, 1, 2, 3, 4, 5, 6, 7, 8] (by decide) rfl
  refine lv_aload_n hx hb d_15_11_330 rfl (lv_at hl 0 rfl) ?_
  refine lv_bipush (v := 6) hx hb d_15_11_331 (by decide) ?_
  refine gnewaX (atype := .long) hx hb hts k_1_105 hP74 hS73 (by decide) (N' := 6) (by decide) (Nat.le_of_ble_eq_true rfl) (Nat.le_of_ble_eq_true rfl) (Nat.le_of_ble_eq_true rfl) d_15_11_333 (fun q75 H75 hP75 hS75 => ?_)
  clear hP74 hS73
  refine W.widen (k := 198) (n := 578178) (Nat.le_of_ble_eq_true rfl) (Nat.le_of_ble_eq_true rfl) ?_
  refine gputFX hx hb hts inW_14 tyX14 tyX14_ok nmX14 hown hK hP75 hD74 hS75 0 rfl rfl hF73 25 (by decide) k_11_23 rfl hnm rfl rfl rfl d_15_11_335 (L' := [(8, .ref q19), (7, .ref q17), (6, .ref q14), (5, .ref q6), (4, .ref q4), (2, .ref q2)]) rfl (fun f76 H76 locs76 hF76 hm76 hP76 hD76 hS76 => ?_)
  have hM76 := gM.tr hM73 hm76
  have hP76 : va_P D cls [(a0, .inr (14, rg 107 f76)), (q2, .inl (ca 2, 3000, .inl f2)), (q4, .inl (ca 2, 20, .inl f4)), (q6, .inl (ca 5, 2, .inr (.inr (.inr (.inr f12))))), (q7, .inr (13, rg 81 x8_0)), (q10, .inr (13, rg 81 x11_0)), (q14, .inr (13, rg 81 x15_0)), (q17, .inl (ca 0, 3001, .inl f17)), (q19, .inl (ca 0, 3001, .inl f19))] H76 := hP76
  have hD76 : va_D A [(a0, .inr (14, rg 107 f76)), (q2, .inl (ca 2, 3000, .inl f2)), (q4, .inl (ca 2, 20, .inl f4)), (q6, .inl (ca 5, 2, .inr (.inr (.inr (.inr f12))))), (q7, .inr (13, rg 81 x8_0)), (q10, .inr (13, rg 81 x11_0)), (q14, .inr (13, rg 81 x15_0)), (q17, .inl (ca 0, 3001, .inl f17)), (q19, .inl (ca 0, 3001, .inl f19))] := hD76
  clear hP75 hD74 hS75 hF73 hM73 hm76
  refine lv_aload_n hx hb d_15_11_338 rfl (lv_at hl 0 rfl) ?_
  refine lv_bipush (v := 6) hx hb d_15_11_339 (by decide) ?_
  refine gnewaX (atype := .int) hx hb hts k_1_57 hP76 hS76 (by decide) (N' := 6) (by decide) (Nat.le_of_ble_eq_true rfl) (Nat.le_of_ble_eq_true rfl) (Nat.le_of_ble_eq_true rfl) d_15_11_341 (fun q77 H77 hP77 hS77 => ?_)
  clear hP76 hS76
  refine W.widen (k := 199) (n := 578184) (Nat.le_of_ble_eq_true rfl) (Nat.le_of_ble_eq_true rfl) ?_
  refine gputFX hx hb hts inW_14 tyX14 tyX14_ok nmX14 hown hK hP77 hD76 hS77 0 rfl rfl hF76 26 (by decide) k_11_24 rfl hnm rfl rfl rfl d_15_11_343 (L' := [(8, .ref q19), (7, .ref q17), (6, .ref q14), (5, .ref q6), (4, .ref q4), (2, .ref q2)]) rfl (fun f78 H78 locs78 hF78 hm78 hP78 hD78 hS78 => ?_)
  have hM78 := gM.tr hM76 hm78
  have hP78 : va_P D cls [(a0, .inr (14, rg 107 f78)), (q2, .inl (ca 2, 3000, .inl f2)), (q4, .inl (ca 2, 20, .inl f4)), (q6, .inl (ca 5, 2, .inr (.inr (.inr (.inr f12))))), (q7, .inr (13, rg 81 x8_0)), (q10, .inr (13, rg 81 x11_0)), (q14, .inr (13, rg 81 x15_0)), (q17, .inl (ca 0, 3001, .inl f17)), (q19, .inl (ca 0, 3001, .inl f19))] H78 := hP78
  have hD78 : va_D A [(a0, .inr (14, rg 107 f78)), (q2, .inl (ca 2, 3000, .inl f2)), (q4, .inl (ca 2, 20, .inl f4)), (q6, .inl (ca 5, 2, .inr (.inr (.inr (.inr f12))))), (q7, .inr (13, rg 81 x8_0)), (q10, .inr (13, rg 81 x11_0)), (q14, .inr (13, rg 81 x15_0)), (q17, .inl (ca 0, 3001, .inl f17)), (q19, .inl (ca 0, 3001, .inl f19))] := hD78
  clear hP77 hD76 hS77 hF76 hM76 hm78
  refine lv_aload_n hx hb d_15_11_346 rfl (lv_at hl 0 rfl) ?_
  refine lv_iconst (v := 4) hx hb d_15_11_347 (by decide) ?_
  refine gnewaX (atype := .int) hx hb hts k_1_57 hP78 hS78 (by decide) (N' := 4) (by decide) (Nat.le_of_ble_eq_true rfl) (Nat.le_of_ble_eq_true rfl) (Nat.le_of_ble_eq_true rfl) d_15_11_348 (fun q79 H79 hP79 hS79 => ?_)
  clear hP78 hS78
  refine W.widen (k := 200) (n := 578188) (Nat.le_of_ble_eq_true rfl) (Nat.le_of_ble_eq_true rfl) ?_
  refine gputFX hx hb hts inW_14 tyX14 tyX14_ok nmX14 hown hK hP79 hD78 hS79 0 rfl rfl hF78 28 (by decide) k_11_26 rfl hnm rfl rfl rfl d_15_11_350 (L' := [(8, .ref q19), (7, .ref q17), (6, .ref q14), (5, .ref q6), (4, .ref q4), (2, .ref q2)]) rfl (fun f80 H80 locs80 hF80 hm80 hP80 hD80 hS80 => ?_)
  have hM80 := gM.tr hM78 hm80
  have hP80 : va_P D cls [(a0, .inr (14, rg 107 f80)), (q2, .inl (ca 2, 3000, .inl f2)), (q4, .inl (ca 2, 20, .inl f4)), (q6, .inl (ca 5, 2, .inr (.inr (.inr (.inr f12))))), (q7, .inr (13, rg 81 x8_0)), (q10, .inr (13, rg 81 x11_0)), (q14, .inr (13, rg 81 x15_0)), (q17, .inl (ca 0, 3001, .inl f17)), (q19, .inl (ca 0, 3001, .inl f19))] H80 := hP80
  have hD80 : va_D A [(a0, .inr (14, rg 107 f80)), (q2, .inl (ca 2, 3000, .inl f2)), (q4, .inl (ca 2, 20, .inl f4)), (q6, .inl (ca 5, 2, .inr (.inr (.inr (.inr f12))))), (q7, .inr (13, rg 81 x8_0)), (q10, .inr (13, rg 81 x11_0)), (q14, .inr (13, rg 81 x15_0)), (q17, .inl (ca 0, 3001, .inl f17)), (q19, .inl (ca 0, 3001, .inl f19))] := hD80
  clear hP79 hD78 hS79 hF78 hM78 hm80
  refine lv_aload_n hx hb d_15_11_353 rfl (lv_at hl 0 rfl) ?_
  refine lv_iconst (v := 4) hx hb d_15_11_354 (by decide) ?_
  refine gnewaX (atype := .int) hx hb hts k_1_57 hP80 hS80 (by decide) (N' := 4) (by decide) (Nat.le_of_ble_eq_true rfl) (Nat.le_of_ble_eq_true rfl) (Nat.le_of_ble_eq_true rfl) d_15_11_355 (fun q81 H81 hP81 hS81 => ?_)
  clear hP80 hS80
  refine W.widen (k := 201) (n := 578192) (Nat.le_of_ble_eq_true rfl) (Nat.le_of_ble_eq_true rfl) ?_
  refine gputFX hx hb hts inW_14 tyX14 tyX14_ok nmX14 hown hK hP81 hD80 hS81 0 rfl rfl hF80 29 (by decide) k_11_27 rfl hnm rfl rfl rfl d_15_11_357 (L' := [(8, .ref q19), (7, .ref q17), (6, .ref q14), (5, .ref q6), (4, .ref q4), (2, .ref q2)]) rfl (fun f82 H82 locs82 hF82 hm82 hP82 hD82 hS82 => ?_)
  have hM82 := gM.tr hM80 hm82
  have hP82 : va_P D cls [(a0, .inr (14, rg 107 f82)), (q2, .inl (ca 2, 3000, .inl f2)), (q4, .inl (ca 2, 20, .inl f4)), (q6, .inl (ca 5, 2, .inr (.inr (.inr (.inr f12))))), (q7, .inr (13, rg 81 x8_0)), (q10, .inr (13, rg 81 x11_0)), (q14, .inr (13, rg 81 x15_0)), (q17, .inl (ca 0, 3001, .inl f17)), (q19, .inl (ca 0, 3001, .inl f19))] H82 := hP82
  have hD82 : va_D A [(a0, .inr (14, rg 107 f82)), (q2, .inl (ca 2, 3000, .inl f2)), (q4, .inl (ca 2, 20, .inl f4)), (q6, .inl (ca 5, 2, .inr (.inr (.inr (.inr f12))))), (q7, .inr (13, rg 81 x8_0)), (q10, .inr (13, rg 81 x11_0)), (q14, .inr (13, rg 81 x15_0)), (q17, .inl (ca 0, 3001, .inl f17)), (q19, .inl (ca 0, 3001, .inl f19))] := hD82
  clear hP81 hD80 hS81 hF80 hM80 hm82
  refine lv_aload_n hx hb d_15_11_360 rfl (lv_at hl 0 rfl) ?_
  refine lv_sipush (v := 3001) hx hb d_15_11_361 (by decide) ?_
  refine gnewaX (atype := .int) hx hb hts k_1_57 hP82 hS82 (by decide) (N' := 3001) (by decide) (Nat.le_of_ble_eq_true rfl) (Nat.le_of_ble_eq_true rfl) (Nat.le_of_ble_eq_true rfl) d_15_11_364 (fun q83 H83 hP83 hS83 => ?_)
  clear hP82 hS82
  refine W.widen (k := 202) (n := 581193) (Nat.le_of_ble_eq_true rfl) (Nat.le_of_ble_eq_true rfl) ?_
  refine gputFX hx hb hts inW_14 tyX14 tyX14_ok nmX14 hown hK hP83 hD82 hS83 0 rfl rfl hF82 30 (by decide) k_11_28 rfl hnm rfl rfl rfl d_15_11_366 (L' := [(8, .ref q19), (7, .ref q17), (6, .ref q14), (5, .ref q6), (4, .ref q4), (2, .ref q2)]) rfl (fun f84 H84 locs84 hF84 hm84 hP84 hD84 hS84 => ?_)
  have hM84 := gM.tr hM82 hm84
  have hP84 : va_P D cls [(a0, .inr (14, rg 107 f84)), (q2, .inl (ca 2, 3000, .inl f2)), (q4, .inl (ca 2, 20, .inl f4)), (q6, .inl (ca 5, 2, .inr (.inr (.inr (.inr f12))))), (q7, .inr (13, rg 81 x8_0)), (q10, .inr (13, rg 81 x11_0)), (q14, .inr (13, rg 81 x15_0)), (q17, .inl (ca 0, 3001, .inl f17)), (q19, .inl (ca 0, 3001, .inl f19))] H84 := hP84
  have hD84 : va_D A [(a0, .inr (14, rg 107 f84)), (q2, .inl (ca 2, 3000, .inl f2)), (q4, .inl (ca 2, 20, .inl f4)), (q6, .inl (ca 5, 2, .inr (.inr (.inr (.inr f12))))), (q7, .inr (13, rg 81 x8_0)), (q10, .inr (13, rg 81 x11_0)), (q14, .inr (13, rg 81 x15_0)), (q17, .inl (ca 0, 3001, .inl f17)), (q19, .inl (ca 0, 3001, .inl f19))] := hD84
  clear hP83 hD82 hS83 hF82 hM82 hm84
  refine lv_aload_n hx hb d_15_11_369 rfl (lv_at hl 0 rfl) ?_
  refine lv_sipush (v := 3001) hx hb d_15_11_370 (by decide) ?_
  refine gnewaX (atype := .int) hx hb hts k_1_57 hP84 hS84 (by decide) (N' := 3001) (by decide) (Nat.le_of_ble_eq_true rfl) (Nat.le_of_ble_eq_true rfl) (Nat.le_of_ble_eq_true rfl) d_15_11_373 (fun q85 H85 hP85 hS85 => ?_)
  clear hP84 hS84
  refine W.widen (k := 203) (n := 584194) (Nat.le_of_ble_eq_true rfl) (Nat.le_of_ble_eq_true rfl) ?_
  refine gputFX hx hb hts inW_14 tyX14 tyX14_ok nmX14 hown hK hP85 hD84 hS85 0 rfl rfl hF84 31 (by decide) k_11_29 rfl hnm rfl rfl rfl d_15_11_375 (L' := [(8, .ref q19), (7, .ref q17), (6, .ref q14), (5, .ref q6), (4, .ref q4), (2, .ref q2)]) rfl (fun f86 H86 locs86 hF86 hm86 hP86 hD86 hS86 => ?_)
  have hM86 := gM.tr hM84 hm86
  have hP86 : va_P D cls [(a0, .inr (14, rg 107 f86)), (q2, .inl (ca 2, 3000, .inl f2)), (q4, .inl (ca 2, 20, .inl f4)), (q6, .inl (ca 5, 2, .inr (.inr (.inr (.inr f12))))), (q7, .inr (13, rg 81 x8_0)), (q10, .inr (13, rg 81 x11_0)), (q14, .inr (13, rg 81 x15_0)), (q17, .inl (ca 0, 3001, .inl f17)), (q19, .inl (ca 0, 3001, .inl f19))] H86 := hP86
  have hD86 : va_D A [(a0, .inr (14, rg 107 f86)), (q2, .inl (ca 2, 3000, .inl f2)), (q4, .inl (ca 2, 20, .inl f4)), (q6, .inl (ca 5, 2, .inr (.inr (.inr (.inr f12))))), (q7, .inr (13, rg 81 x8_0)), (q10, .inr (13, rg 81 x11_0)), (q14, .inr (13, rg 81 x15_0)), (q17, .inl (ca 0, 3001, .inl f17)), (q19, .inl (ca 0, 3001, .inl f19))] := hD86
  clear hP85 hD84 hS85 hF84 hM84 hm86
  refine lv_aload_n hx hb d_15_11_378 rfl (lv_at hl 0 rfl) ?_
  refine lv_sipush (v := 3001) hx hb d_15_11_379 (by decide) ?_
  refine gnewaX (atype := .int) hx hb hts k_1_57 hP86 hS86 (by decide) (N' := 3001) (by decide) (Nat.le_of_ble_eq_true rfl) (Nat.le_of_ble_eq_true rfl) (Nat.le_of_ble_eq_true rfl) d_15_11_382 (fun q87 H87 hP87 hS87 => ?_)
  clear hP86 hS86
  refine W.widen (k := 204) (n := 587195) (Nat.le_of_ble_eq_true rfl) (Nat.le_of_ble_eq_true rfl) ?_
  refine gputFX hx hb hts inW_14 tyX14 tyX14_ok nmX14 hown hK hP87 hD86 hS87 0 rfl rfl hF86 32 (by decide) k_11_30 rfl hnm rfl rfl rfl d_15_11_384 (L' := [(8, .ref q19), (7, .ref q17), (6, .ref q14), (5, .ref q6), (4, .ref q4), (2, .ref q2)]) rfl (fun f88 H88 locs88 hF88 hm88 hP88 hD88 hS88 => ?_)
  have hM88 := gM.tr hM86 hm88
  have hP88 : va_P D cls [(a0, .inr (14, rg 107 f88)), (q2, .inl (ca 2, 3000, .inl f2)), (q4, .inl (ca 2, 20, .inl f4)), (q6, .inl (ca 5, 2, .inr (.inr (.inr (.inr f12))))), (q7, .inr (13, rg 81 x8_0)), (q10, .inr (13, rg 81 x11_0)), (q14, .inr (13, rg 81 x15_0)), (q17, .inl (ca 0, 3001, .inl f17)), (q19, .inl (ca 0, 3001, .inl f19))] H88 := hP88
  have hD88 : va_D A [(a0, .inr (14, rg 107 f88)), (q2, .inl (ca 2, 3000, .inl f2)), (q4, .inl (ca 2, 20, .inl f4)), (q6, .inl (ca 5, 2, .inr (.inr (.inr (.inr f12))))), (q7, .inr (13, rg 81 x8_0)), (q10, .inr (13, rg 81 x11_0)), (q14, .inr (13, rg 81 x15_0)), (q17, .inl (ca 0, 3001, .inl f17)), (q19, .inl (ca 0, 3001, .inl f19))] := hD88
  clear hP87 hD86 hS87 hF86 hM86 hm88
  refine lv_aload_n hx hb d_15_11_387 rfl (lv_at hl 0 rfl) ?_
  refine lv_sipush (v := 3001) hx hb d_15_11_388 (by decide) ?_
  refine gnewaX (atype := .int) hx hb hts k_1_57 hP88 hS88 (by decide) (N' := 3001) (by decide) (Nat.le_of_ble_eq_true rfl) (Nat.le_of_ble_eq_true rfl) (Nat.le_of_ble_eq_true rfl) d_15_11_391 (fun q89 H89 hP89 hS89 => ?_)
  clear hP88 hS88
  refine W.widen (k := 205) (n := 590196) (Nat.le_of_ble_eq_true rfl) (Nat.le_of_ble_eq_true rfl) ?_
  refine gputFX hx hb hts inW_14 tyX14 tyX14_ok nmX14 hown hK hP89 hD88 hS89 0 rfl rfl hF88 33 (by decide) k_11_31 rfl hnm rfl rfl rfl d_15_11_393 (L' := [(8, .ref q19), (7, .ref q17), (6, .ref q14), (5, .ref q6), (4, .ref q4), (2, .ref q2)]) rfl (fun f90 H90 locs90 hF90 hm90 hP90 hD90 hS90 => ?_)
  have hM90 := gM.tr hM88 hm90
  have hP90 : va_P D cls [(a0, .inr (14, rg 107 f90)), (q2, .inl (ca 2, 3000, .inl f2)), (q4, .inl (ca 2, 20, .inl f4)), (q6, .inl (ca 5, 2, .inr (.inr (.inr (.inr f12))))), (q7, .inr (13, rg 81 x8_0)), (q10, .inr (13, rg 81 x11_0)), (q14, .inr (13, rg 81 x15_0)), (q17, .inl (ca 0, 3001, .inl f17)), (q19, .inl (ca 0, 3001, .inl f19))] H90 := hP90
  have hD90 : va_D A [(a0, .inr (14, rg 107 f90)), (q2, .inl (ca 2, 3000, .inl f2)), (q4, .inl (ca 2, 20, .inl f4)), (q6, .inl (ca 5, 2, .inr (.inr (.inr (.inr f12))))), (q7, .inr (13, rg 81 x8_0)), (q10, .inr (13, rg 81 x11_0)), (q14, .inr (13, rg 81 x15_0)), (q17, .inl (ca 0, 3001, .inl f17)), (q19, .inl (ca 0, 3001, .inl f19))] := hD90
  clear hP89 hD88 hS89 hF88 hM88 hm90
  refine lv_aload_n hx hb d_15_11_396 rfl (lv_at hl 0 rfl) ?_
  refine lv_sipush (v := 3001) hx hb d_15_11_397 (by decide) ?_
  refine gnewaX (atype := .int) hx hb hts k_1_57 hP90 hS90 (by decide) (N' := 3001) (by decide) (Nat.le_of_ble_eq_true rfl) (Nat.le_of_ble_eq_true rfl) (Nat.le_of_ble_eq_true rfl) d_15_11_400 (fun q91 H91 hP91 hS91 => ?_)
  clear hP90 hS90
  refine W.widen (k := 206) (n := 593197) (Nat.le_of_ble_eq_true rfl) (Nat.le_of_ble_eq_true rfl) ?_
  refine gputFX hx hb hts inW_14 tyX14 tyX14_ok nmX14 hown hK hP91 hD90 hS91 0 rfl rfl hF90 34 (by decide) k_11_32 rfl hnm rfl rfl rfl d_15_11_402 (L' := [(8, .ref q19), (7, .ref q17), (6, .ref q14), (5, .ref q6), (4, .ref q4), (2, .ref q2)]) rfl (fun f92 H92 locs92 hF92 hm92 hP92 hD92 hS92 => ?_)
  have hM92 := gM.tr hM90 hm92
  have hP92 : va_P D cls [(a0, .inr (14, rg 107 f92)), (q2, .inl (ca 2, 3000, .inl f2)), (q4, .inl (ca 2, 20, .inl f4)), (q6, .inl (ca 5, 2, .inr (.inr (.inr (.inr f12))))), (q7, .inr (13, rg 81 x8_0)), (q10, .inr (13, rg 81 x11_0)), (q14, .inr (13, rg 81 x15_0)), (q17, .inl (ca 0, 3001, .inl f17)), (q19, .inl (ca 0, 3001, .inl f19))] H92 := hP92
  have hD92 : va_D A [(a0, .inr (14, rg 107 f92)), (q2, .inl (ca 2, 3000, .inl f2)), (q4, .inl (ca 2, 20, .inl f4)), (q6, .inl (ca 5, 2, .inr (.inr (.inr (.inr f12))))), (q7, .inr (13, rg 81 x8_0)), (q10, .inr (13, rg 81 x11_0)), (q14, .inr (13, rg 81 x15_0)), (q17, .inl (ca 0, 3001, .inl f17)), (q19, .inl (ca 0, 3001, .inl f19))] := hD92
  clear hP91 hD90 hS91 hF90 hM90 hm92
  refine lv_aload_n hx hb d_15_11_405 rfl (lv_at hl 0 rfl) ?_
  refine lv_bipush (v := 100) hx hb d_15_11_406 (by decide) ?_
  refine gnewaX (atype := .boolean) hx hb hts k_2_126 hP92 hS92 (by decide) (N' := 100) (by decide) (Nat.le_of_ble_eq_true rfl) (Nat.le_of_ble_eq_true rfl) (Nat.le_of_ble_eq_true rfl) d_15_11_408 (fun q93 H93 hP93 hS93 => ?_)
  clear hP92 hS92
  refine W.widen (k := 207) (n := 593297) (Nat.le_of_ble_eq_true rfl) (Nat.le_of_ble_eq_true rfl) ?_
  refine gputFX hx hb hts inW_14 tyX14 tyX14_ok nmX14 hown hK hP93 hD92 hS93 0 rfl rfl hF92 42 (by decide) k_11_40 rfl hnm rfl rfl rfl d_15_11_410 (L' := [(8, .ref q19), (7, .ref q17), (6, .ref q14), (5, .ref q6), (4, .ref q4), (2, .ref q2)]) rfl (fun f94 H94 locs94 hF94 hm94 hP94 hD94 hS94 => ?_)
  have hM94 := gM.tr hM92 hm94
  have hP94 : va_P D cls [(a0, .inr (14, rg 107 f94)), (q2, .inl (ca 2, 3000, .inl f2)), (q4, .inl (ca 2, 20, .inl f4)), (q6, .inl (ca 5, 2, .inr (.inr (.inr (.inr f12))))), (q7, .inr (13, rg 81 x8_0)), (q10, .inr (13, rg 81 x11_0)), (q14, .inr (13, rg 81 x15_0)), (q17, .inl (ca 0, 3001, .inl f17)), (q19, .inl (ca 0, 3001, .inl f19))] H94 := hP94
  have hD94 : va_D A [(a0, .inr (14, rg 107 f94)), (q2, .inl (ca 2, 3000, .inl f2)), (q4, .inl (ca 2, 20, .inl f4)), (q6, .inl (ca 5, 2, .inr (.inr (.inr (.inr f12))))), (q7, .inr (13, rg 81 x8_0)), (q10, .inr (13, rg 81 x11_0)), (q14, .inr (13, rg 81 x15_0)), (q17, .inl (ca 0, 3001, .inl f17)), (q19, .inl (ca 0, 3001, .inl f19))] := hD94
  clear hP93 hD92 hS93 hF92 hM92 hm94
  refine lv_aload_n hx hb d_15_11_413 rfl (lv_at hl 0 rfl) ?_
  refine lv_bipush (v := 100) hx hb d_15_11_414 (by decide) ?_
  refine gnewaX (atype := .int) hx hb hts k_1_57 hP94 hS94 (by decide) (N' := 100) (by decide) (Nat.le_of_ble_eq_true rfl) (Nat.le_of_ble_eq_true rfl) (Nat.le_of_ble_eq_true rfl) d_15_11_416 (fun q95 H95 hP95 hS95 => ?_)
  clear hP94 hS94
  refine W.widen (k := 208) (n := 593397) (Nat.le_of_ble_eq_true rfl) (Nat.le_of_ble_eq_true rfl) ?_
  refine gputFX hx hb hts inW_14 tyX14 tyX14_ok nmX14 hown hK hP95 hD94 hS95 0 rfl rfl hF94 43 (by decide) k_11_41 rfl hnm rfl rfl rfl d_15_11_418 (L' := [(8, .ref q19), (7, .ref q17), (6, .ref q14), (5, .ref q6), (4, .ref q4), (2, .ref q2)]) rfl (fun f96 H96 locs96 hF96 hm96 hP96 hD96 hS96 => ?_)
  have hM96 := gM.tr hM94 hm96
  have hP96 : va_P D cls [(a0, .inr (14, rg 107 f96)), (q2, .inl (ca 2, 3000, .inl f2)), (q4, .inl (ca 2, 20, .inl f4)), (q6, .inl (ca 5, 2, .inr (.inr (.inr (.inr f12))))), (q7, .inr (13, rg 81 x8_0)), (q10, .inr (13, rg 81 x11_0)), (q14, .inr (13, rg 81 x15_0)), (q17, .inl (ca 0, 3001, .inl f17)), (q19, .inl (ca 0, 3001, .inl f19))] H96 := hP96
  have hD96 : va_D A [(a0, .inr (14, rg 107 f96)), (q2, .inl (ca 2, 3000, .inl f2)), (q4, .inl (ca 2, 20, .inl f4)), (q6, .inl (ca 5, 2, .inr (.inr (.inr (.inr f12))))), (q7, .inr (13, rg 81 x8_0)), (q10, .inr (13, rg 81 x11_0)), (q14, .inr (13, rg 81 x15_0)), (q17, .inl (ca 0, 3001, .inl f17)), (q19, .inl (ca 0, 3001, .inl f19))] := hD96
  clear hP95 hD94 hS95 hF94 hM94 hm96
  refine lv_aload_n hx hb d_15_11_421 rfl (lv_at hl 0 rfl) ?_
  refine lv_bipush (v := 100) hx hb d_15_11_422 (by decide) ?_
  refine gnewaX (atype := .int) hx hb hts k_1_57 hP96 hS96 (by decide) (N' := 100) (by decide) (Nat.le_of_ble_eq_true rfl) (Nat.le_of_ble_eq_true rfl) (Nat.le_of_ble_eq_true rfl) d_15_11_424 (fun q97 H97 hP97 hS97 => ?_)
  clear hP96 hS96
  refine W.widen (k := 209) (n := 593497) (Nat.le_of_ble_eq_true rfl) (Nat.le_of_ble_eq_true rfl) ?_
  refine gputFX hx hb hts inW_14 tyX14 tyX14_ok nmX14 hown hK hP97 hD96 hS97 0 rfl rfl hF96 44 (by decide) k_11_42 rfl hnm rfl rfl rfl d_15_11_426 (L' := [(8, .ref q19), (7, .ref q17), (6, .ref q14), (5, .ref q6), (4, .ref q4), (2, .ref q2)]) rfl (fun f98 H98 locs98 hF98 hm98 hP98 hD98 hS98 => ?_)
  have hM98 := gM.tr hM96 hm98
  have hP98 : va_P D cls [(a0, .inr (14, rg 107 f98)), (q2, .inl (ca 2, 3000, .inl f2)), (q4, .inl (ca 2, 20, .inl f4)), (q6, .inl (ca 5, 2, .inr (.inr (.inr (.inr f12))))), (q7, .inr (13, rg 81 x8_0)), (q10, .inr (13, rg 81 x11_0)), (q14, .inr (13, rg 81 x15_0)), (q17, .inl (ca 0, 3001, .inl f17)), (q19, .inl (ca 0, 3001, .inl f19))] H98 := hP98
  have hD98 : va_D A [(a0, .inr (14, rg 107 f98)), (q2, .inl (ca 2, 3000, .inl f2)), (q4, .inl (ca 2, 20, .inl f4)), (q6, .inl (ca 5, 2, .inr (.inr (.inr (.inr f12))))), (q7, .inr (13, rg 81 x8_0)), (q10, .inr (13, rg 81 x11_0)), (q14, .inr (13, rg 81 x15_0)), (q17, .inl (ca 0, 3001, .inl f17)), (q19, .inl (ca 0, 3001, .inl f19))] := hD98
  clear hP97 hD96 hS97 hF96 hM96 hm98
  refine lv_aload_n hx hb d_15_11_429 rfl (lv_at hl 0 rfl) ?_
  refine lv_bipush (v := 100) hx hb d_15_11_430 (by decide) ?_
  refine gnewaX (atype := .int) hx hb hts k_1_57 hP98 hS98 (by decide) (N' := 100) (by decide) (Nat.le_of_ble_eq_true rfl) (Nat.le_of_ble_eq_true rfl) (Nat.le_of_ble_eq_true rfl) d_15_11_432 (fun q99 H99 hP99 hS99 => ?_)
  clear hP98 hS98
  refine W.widen (k := 210) (n := 593597) (Nat.le_of_ble_eq_true rfl) (Nat.le_of_ble_eq_true rfl) ?_
  refine gputFX hx hb hts inW_14 tyX14 tyX14_ok nmX14 hown hK hP99 hD98 hS99 0 rfl rfl hF98 46 (by decide) k_11_44 rfl hnm rfl rfl rfl d_15_11_434 (L' := [(8, .ref q19), (7, .ref q17), (6, .ref q14), (5, .ref q6), (4, .ref q4), (2, .ref q2)]) rfl (fun f100 H100 locs100 hF100 hm100 hP100 hD100 hS100 => ?_)
  have hM100 := gM.tr hM98 hm100
  have hP100 : va_P D cls [(a0, .inr (14, rg 107 f100)), (q2, .inl (ca 2, 3000, .inl f2)), (q4, .inl (ca 2, 20, .inl f4)), (q6, .inl (ca 5, 2, .inr (.inr (.inr (.inr f12))))), (q7, .inr (13, rg 81 x8_0)), (q10, .inr (13, rg 81 x11_0)), (q14, .inr (13, rg 81 x15_0)), (q17, .inl (ca 0, 3001, .inl f17)), (q19, .inl (ca 0, 3001, .inl f19))] H100 := hP100
  have hD100 : va_D A [(a0, .inr (14, rg 107 f100)), (q2, .inl (ca 2, 3000, .inl f2)), (q4, .inl (ca 2, 20, .inl f4)), (q6, .inl (ca 5, 2, .inr (.inr (.inr (.inr f12))))), (q7, .inr (13, rg 81 x8_0)), (q10, .inr (13, rg 81 x11_0)), (q14, .inr (13, rg 81 x15_0)), (q17, .inl (ca 0, 3001, .inl f17)), (q19, .inl (ca 0, 3001, .inl f19))] := hD100
  clear hP99 hD98 hS99 hF98 hM98 hm100
  refine lv_aload_n hx hb d_15_11_437 rfl (lv_at hl 0 rfl) ?_
  refine lv_bipush (v := 100) hx hb d_15_11_438 (by decide) ?_
  refine gnewaX (atype := .int) hx hb hts k_1_57 hP100 hS100 (by decide) (N' := 100) (by decide) (Nat.le_of_ble_eq_true rfl) (Nat.le_of_ble_eq_true rfl) (Nat.le_of_ble_eq_true rfl) d_15_11_440 (fun q101 H101 hP101 hS101 => ?_)
  clear hP100 hS100
  refine W.widen (k := 211) (n := 593697) (Nat.le_of_ble_eq_true rfl) (Nat.le_of_ble_eq_true rfl) ?_
  refine gputFX hx hb hts inW_14 tyX14 tyX14_ok nmX14 hown hK hP101 hD100 hS101 0 rfl rfl hF100 47 (by decide) k_11_45 rfl hnm rfl rfl rfl d_15_11_442 (L' := [(8, .ref q19), (7, .ref q17), (6, .ref q14), (5, .ref q6), (4, .ref q4), (2, .ref q2)]) rfl (fun f102 H102 locs102 hF102 hm102 hP102 hD102 hS102 => ?_)
  have hM102 := gM.tr hM100 hm102
  have hP102 : va_P D cls [(a0, .inr (14, rg 107 f102)), (q2, .inl (ca 2, 3000, .inl f2)), (q4, .inl (ca 2, 20, .inl f4)), (q6, .inl (ca 5, 2, .inr (.inr (.inr (.inr f12))))), (q7, .inr (13, rg 81 x8_0)), (q10, .inr (13, rg 81 x11_0)), (q14, .inr (13, rg 81 x15_0)), (q17, .inl (ca 0, 3001, .inl f17)), (q19, .inl (ca 0, 3001, .inl f19))] H102 := hP102
  have hD102 : va_D A [(a0, .inr (14, rg 107 f102)), (q2, .inl (ca 2, 3000, .inl f2)), (q4, .inl (ca 2, 20, .inl f4)), (q6, .inl (ca 5, 2, .inr (.inr (.inr (.inr f12))))), (q7, .inr (13, rg 81 x8_0)), (q10, .inr (13, rg 81 x11_0)), (q14, .inr (13, rg 81 x15_0)), (q17, .inl (ca 0, 3001, .inl f17)), (q19, .inl (ca 0, 3001, .inl f19))] := hD102
  clear hP101 hD100 hS101 hF100 hM100 hm102
  refine lv_aload_n hx hb d_15_11_445 rfl (lv_at hl 0 rfl) ?_
  refine lv_bipush (v := 8) hx hb d_15_11_446 (by decide) ?_
  refine gnewaX (atype := .int) hx hb hts k_1_57 hP102 hS102 (by decide) (N' := 8) (by decide) (Nat.le_of_ble_eq_true rfl) (Nat.le_of_ble_eq_true rfl) (Nat.le_of_ble_eq_true rfl) d_15_11_448 (fun q103 H103 hP103 hS103 => ?_)
  clear hP102 hS102
  refine W.widen (k := 212) (n := 593705) (Nat.le_of_ble_eq_true rfl) (Nat.le_of_ble_eq_true rfl) ?_
  refine gputFX hx hb hts inW_14 tyX14 tyX14_ok nmX14 hown hK hP103 hD102 hS103 0 rfl rfl hF102 51 (by decide) k_11_49 rfl hnm rfl rfl rfl d_15_11_450 (L' := [(8, .ref q19), (7, .ref q17), (6, .ref q14), (5, .ref q6), (4, .ref q4), (2, .ref q2)]) rfl (fun f104 H104 locs104 hF104 hm104 hP104 hD104 hS104 => ?_)
  have hM104 := gM.tr hM102 hm104
  have hP104 : va_P D cls [(a0, .inr (14, rg 107 f104)), (q2, .inl (ca 2, 3000, .inl f2)), (q4, .inl (ca 2, 20, .inl f4)), (q6, .inl (ca 5, 2, .inr (.inr (.inr (.inr f12))))), (q7, .inr (13, rg 81 x8_0)), (q10, .inr (13, rg 81 x11_0)), (q14, .inr (13, rg 81 x15_0)), (q17, .inl (ca 0, 3001, .inl f17)), (q19, .inl (ca 0, 3001, .inl f19))] H104 := hP104
  have hD104 : va_D A [(a0, .inr (14, rg 107 f104)), (q2, .inl (ca 2, 3000, .inl f2)), (q4, .inl (ca 2, 20, .inl f4)), (q6, .inl (ca 5, 2, .inr (.inr (.inr (.inr f12))))), (q7, .inr (13, rg 81 x8_0)), (q10, .inr (13, rg 81 x11_0)), (q14, .inr (13, rg 81 x15_0)), (q17, .inl (ca 0, 3001, .inl f17)), (q19, .inl (ca 0, 3001, .inl f19))] := hD104
  clear hP103 hD102 hS103 hF102 hM102 hm104
  refine lv_aload_n hx hb d_15_11_453 rfl (lv_at hl 0 rfl) ?_
  refine lv_bipush (v := 63) hx hb d_15_11_454 (by decide) ?_
  refine gnewaX (atype := .int) hx hb hts k_1_57 hP104 hS104 (by decide) (N' := 63) (by decide) (Nat.le_of_ble_eq_true rfl) (Nat.le_of_ble_eq_true rfl) (Nat.le_of_ble_eq_true rfl) d_15_11_456 (fun q105 H105 hP105 hS105 => ?_)
  clear hP104 hS104
  refine W.widen (k := 213) (n := 593768) (Nat.le_of_ble_eq_true rfl) (Nat.le_of_ble_eq_true rfl) ?_
  refine gputFX hx hb hts inW_14 tyX14 tyX14_ok nmX14 hown hK hP105 hD104 hS105 0 rfl rfl hF104 58 (by decide) k_11_56 rfl hnm rfl rfl rfl d_15_11_458 (L' := [(8, .ref q19), (7, .ref q17), (6, .ref q14), (5, .ref q6), (4, .ref q4), (2, .ref q2)]) rfl (fun f106 H106 locs106 hF106 hm106 hP106 hD106 hS106 => ?_)
  have hM106 := gM.tr hM104 hm106
  have hP106 : va_P D cls [(a0, .inr (14, rg 107 f106)), (q2, .inl (ca 2, 3000, .inl f2)), (q4, .inl (ca 2, 20, .inl f4)), (q6, .inl (ca 5, 2, .inr (.inr (.inr (.inr f12))))), (q7, .inr (13, rg 81 x8_0)), (q10, .inr (13, rg 81 x11_0)), (q14, .inr (13, rg 81 x15_0)), (q17, .inl (ca 0, 3001, .inl f17)), (q19, .inl (ca 0, 3001, .inl f19))] H106 := hP106
  have hD106 : va_D A [(a0, .inr (14, rg 107 f106)), (q2, .inl (ca 2, 3000, .inl f2)), (q4, .inl (ca 2, 20, .inl f4)), (q6, .inl (ca 5, 2, .inr (.inr (.inr (.inr f12))))), (q7, .inr (13, rg 81 x8_0)), (q10, .inr (13, rg 81 x11_0)), (q14, .inr (13, rg 81 x15_0)), (q17, .inl (ca 0, 3001, .inl f17)), (q19, .inl (ca 0, 3001, .inl f19))] := hD106
  clear hP105 hD104 hS105 hF104 hM104 hm106
  refine lv_aload_n hx hb d_15_11_461 rfl (lv_at hl 0 rfl) ?_
  refine lv_bipush (v := 101) hx hb d_15_11_462 (by decide) ?_
  refine gnewaX (atype := .long) hx hb hts k_1_105 hP106 hS106 (by decide) (N' := 101) (by decide) (Nat.le_of_ble_eq_true rfl) (Nat.le_of_ble_eq_true rfl) (Nat.le_of_ble_eq_true rfl) d_15_11_464 (fun q107 H107 hP107 hS107 => ?_)
  clear hP106 hS106
  refine W.widen (k := 214) (n := 593869) (Nat.le_of_ble_eq_true rfl) (Nat.le_of_ble_eq_true rfl) ?_
  refine gputFX hx hb hts inW_14 tyX14 tyX14_ok nmX14 hown hK hP107 hD106 hS107 0 rfl rfl hF106 59 (by decide) k_11_57 rfl hnm rfl rfl rfl d_15_11_466 (L' := [(8, .ref q19), (7, .ref q17), (6, .ref q14), (5, .ref q6), (4, .ref q4), (2, .ref q2)]) rfl (fun f108 H108 locs108 hF108 hm108 hP108 hD108 hS108 => ?_)
  have hM108 := gM.tr hM106 hm108
  have hP108 : va_P D cls [(a0, .inr (14, rg 107 f108)), (q2, .inl (ca 2, 3000, .inl f2)), (q4, .inl (ca 2, 20, .inl f4)), (q6, .inl (ca 5, 2, .inr (.inr (.inr (.inr f12))))), (q7, .inr (13, rg 81 x8_0)), (q10, .inr (13, rg 81 x11_0)), (q14, .inr (13, rg 81 x15_0)), (q17, .inl (ca 0, 3001, .inl f17)), (q19, .inl (ca 0, 3001, .inl f19))] H108 := hP108
  have hD108 : va_D A [(a0, .inr (14, rg 107 f108)), (q2, .inl (ca 2, 3000, .inl f2)), (q4, .inl (ca 2, 20, .inl f4)), (q6, .inl (ca 5, 2, .inr (.inr (.inr (.inr f12))))), (q7, .inr (13, rg 81 x8_0)), (q10, .inr (13, rg 81 x11_0)), (q14, .inr (13, rg 81 x15_0)), (q17, .inl (ca 0, 3001, .inl f17)), (q19, .inl (ca 0, 3001, .inl f19))] := hD108
  clear hP107 hD106 hS107 hF106 hM106 hm108
  refine lv_aload_n hx hb d_15_11_469 rfl (lv_at hl 0 rfl) ?_
  refine lv_bipush (v := 101) hx hb d_15_11_470 (by decide) ?_
  refine gnewaX (atype := .int) hx hb hts k_1_57 hP108 hS108 (by decide) (N' := 101) (by decide) (Nat.le_of_ble_eq_true rfl) (Nat.le_of_ble_eq_true rfl) (Nat.le_of_ble_eq_true rfl) d_15_11_472 (fun q109 H109 hP109 hS109 => ?_)
  clear hP108 hS108
  refine W.widen (k := 215) (n := 593970) (Nat.le_of_ble_eq_true rfl) (Nat.le_of_ble_eq_true rfl) ?_
  refine gputFX hx hb hts inW_14 tyX14 tyX14_ok nmX14 hown hK hP109 hD108 hS109 0 rfl rfl hF108 60 (by decide) k_11_58 rfl hnm rfl rfl rfl d_15_11_474 (L' := [(8, .ref q19), (7, .ref q17), (6, .ref q14), (5, .ref q6), (4, .ref q4), (2, .ref q2)]) rfl (fun f110 H110 locs110 hF110 hm110 hP110 hD110 hS110 => ?_)
  have hM110 := gM.tr hM108 hm110
  have hP110 : va_P D cls [(a0, .inr (14, rg 107 f110)), (q2, .inl (ca 2, 3000, .inl f2)), (q4, .inl (ca 2, 20, .inl f4)), (q6, .inl (ca 5, 2, .inr (.inr (.inr (.inr f12))))), (q7, .inr (13, rg 81 x8_0)), (q10, .inr (13, rg 81 x11_0)), (q14, .inr (13, rg 81 x15_0)), (q17, .inl (ca 0, 3001, .inl f17)), (q19, .inl (ca 0, 3001, .inl f19))] H110 := hP110
  have hD110 : va_D A [(a0, .inr (14, rg 107 f110)), (q2, .inl (ca 2, 3000, .inl f2)), (q4, .inl (ca 2, 20, .inl f4)), (q6, .inl (ca 5, 2, .inr (.inr (.inr (.inr f12))))), (q7, .inr (13, rg 81 x8_0)), (q10, .inr (13, rg 81 x11_0)), (q14, .inr (13, rg 81 x15_0)), (q17, .inl (ca 0, 3001, .inl f17)), (q19, .inl (ca 0, 3001, .inl f19))] := hD110
  clear hP109 hD108 hS109 hF108 hM108 hm110
  refine lv_aload_n hx hb d_15_11_477 rfl (lv_at hl 0 rfl) ?_
  refine lv_bipush (v := 8) hx hb d_15_11_478 (by decide) ?_
  refine gnewa (atype := .int) hx hb hts (ty := .int) rfl k_1_57 hK 0 rfl (fun _ _ => gu_int) hP110 hD110 hS110 hA (a0 := (8, .inl (fun _ => 0))) (fun _ => rfl) (by decide) (N' := 8) (by decide) (Nat.le_of_ble_eq_true rfl) (Nat.le_of_ble_eq_true rfl) (Nat.le_of_ble_eq_true rfl) d_15_11_480 (fun q111 H111 hP111 hD111 hS111 => ?_)
  obtain ⟨f111, hF111, hP111, hD111⟩ : ∃ f : Nat → Int32, gF f [] ∧ va_P D cls ([(a0, .inr (14, rg 107 f110)), (q2, .inl (ca 2, 3000, .inl f2)), (q4, .inl (ca 2, 20, .inl f4)), (q6, .inl (ca 5, 2, .inr (.inr (.inr (.inr f12))))), (q7, .inr (13, rg 81 x8_0)), (q10, .inr (13, rg 81 x11_0)), (q14, .inr (13, rg 81 x15_0)), (q17, .inl (ca 0, 3001, .inl f17)), (q19, .inl (ca 0, 3001, .inl f19))] ++ [(q111, .inl (ca 0, 8, .inl f))]) H111 ∧ va_D A ([(a0, .inr (14, rg 107 f110)), (q2, .inl (ca 2, 3000, .inl f2)), (q4, .inl (ca 2, 20, .inl f4)), (q6, .inl (ca 5, 2, .inr (.inr (.inr (.inr f12))))), (q7, .inr (13, rg 81 x8_0)), (q10, .inr (13, rg 81 x11_0)), (q14, .inr (13, rg 81 x15_0)), (q17, .inl (ca 0, 3001, .inl f17)), (q19, .inl (ca 0, 3001, .inl f19))] ++ [(q111, .inl (ca 0, 8, .inl f))]) := ⟨_, gF_nil, hP111, hD111⟩
  have hP111 : va_P D cls [(a0, .inr (14, rg 107 f110)), (q2, .inl (ca 2, 3000, .inl f2)), (q4, .inl (ca 2, 20, .inl f4)), (q6, .inl (ca 5, 2, .inr (.inr (.inr (.inr f12))))), (q7, .inr (13, rg 81 x8_0)), (q10, .inr (13, rg 81 x11_0)), (q14, .inr (13, rg 81 x15_0)), (q17, .inl (ca 0, 3001, .inl f17)), (q19, .inl (ca 0, 3001, .inl f19)), (q111, .inl (ca 0, 8, .inl f111))] H111 := hP111
  have hD111 : va_D A [(a0, .inr (14, rg 107 f110)), (q2, .inl (ca 2, 3000, .inl f2)), (q4, .inl (ca 2, 20, .inl f4)), (q6, .inl (ca 5, 2, .inr (.inr (.inr (.inr f12))))), (q7, .inr (13, rg 81 x8_0)), (q10, .inr (13, rg 81 x11_0)), (q14, .inr (13, rg 81 x15_0)), (q17, .inl (ca 0, 3001, .inl f17)), (q19, .inl (ca 0, 3001, .inl f19)), (q111, .inl (ca 0, 8, .inl f111))] := hD111
  refine W.widen (k := 216) (n := 593978) (Nat.le_of_ble_eq_true rfl) (Nat.le_of_ble_eq_true rfl) ?_
  refine lv_dup hx hb d_15_11_482 rfl ?_
  refine lv_iconst (v := 0) hx hb d_15_11_483 (by decide) ?_
  refine lv_bipush (v := 20) hx hb d_15_11_484 (by decide) ?_
  refine gast hx hb hK hP111 hD111 hS111 9 0 rfl rfl hF111 (k := 0) (by decide) (vinC (by decide)) d_15_11_486 (L' := [(0, 20)]) rfl (fun f112 H112 locs112 hF112 hP112 hD112 hS112 => ?_)
  have hP112 : va_P D cls [(a0, .inr (14, rg 107 f110)), (q2, .inl (ca 2, 3000, .inl f2)), (q4, .inl (ca 2, 20, .inl f4)), (q6, .inl (ca 5, 2, .inr (.inr (.inr (.inr f12))))), (q7, .inr (13, rg 81 x8_0)), (q10, .inr (13, rg 81 x11_0)), (q14, .inr (13, rg 81 x15_0)), (q17, .inl (ca 0, 3001, .inl f17)), (q19, .inl (ca 0, 3001, .inl f19)), (q111, .inl (ca 0, 8, .inl f112))] H112 := hP112
  have hD112 : va_D A [(a0, .inr (14, rg 107 f110)), (q2, .inl (ca 2, 3000, .inl f2)), (q4, .inl (ca 2, 20, .inl f4)), (q6, .inl (ca 5, 2, .inr (.inr (.inr (.inr f12))))), (q7, .inr (13, rg 81 x8_0)), (q10, .inr (13, rg 81 x11_0)), (q14, .inr (13, rg 81 x15_0)), (q17, .inl (ca 0, 3001, .inl f17)), (q19, .inl (ca 0, 3001, .inl f19)), (q111, .inl (ca 0, 8, .inl f112))] := hD112
  clear hP111 hD111 hS111 hF111
  refine lv_dup hx hb d_15_11_487 rfl ?_
  refine lv_iconst (v := 1) hx hb d_15_11_488 (by decide) ?_
  refine lv_bipush (v := 33) hx hb d_15_11_489 (by decide) ?_
  refine gast hx hb hK hP112 hD112 hS112 9 0 rfl rfl hF112 (k := 1) (by decide) (vinC (by decide)) d_15_11_491 (L' := [(1, 33), (0, 20)]) rfl (fun f113 H113 locs113 hF113 hP113 hD113 hS113 => ?_)
  have hP113 : va_P D cls [(a0, .inr (14, rg 107 f110)), (q2, .inl (ca 2, 3000, .inl f2)), (q4, .inl (ca 2, 20, .inl f4)), (q6, .inl (ca 5, 2, .inr (.inr (.inr (.inr f12))))), (q7, .inr (13, rg 81 x8_0)), (q10, .inr (13, rg 81 x11_0)), (q14, .inr (13, rg 81 x15_0)), (q17, .inl (ca 0, 3001, .inl f17)), (q19, .inl (ca 0, 3001, .inl f19)), (q111, .inl (ca 0, 8, .inl f113))] H113 := hP113
  have hD113 : va_D A [(a0, .inr (14, rg 107 f110)), (q2, .inl (ca 2, 3000, .inl f2)), (q4, .inl (ca 2, 20, .inl f4)), (q6, .inl (ca 5, 2, .inr (.inr (.inr (.inr f12))))), (q7, .inr (13, rg 81 x8_0)), (q10, .inr (13, rg 81 x11_0)), (q14, .inr (13, rg 81 x15_0)), (q17, .inl (ca 0, 3001, .inl f17)), (q19, .inl (ca 0, 3001, .inl f19)), (q111, .inl (ca 0, 8, .inl f113))] := hD113
  clear hP112 hD112 hS112 hF112
  refine lv_dup hx hb d_15_11_492 rfl ?_
  refine lv_iconst (v := 2) hx hb d_15_11_493 (by decide) ?_
  refine lv_bipush (v := 46) hx hb d_15_11_494 (by decide) ?_
  refine gast hx hb hK hP113 hD113 hS113 9 0 rfl rfl hF113 (k := 2) (by decide) (vinC (by decide)) d_15_11_496 (L' := [(2, 46), (1, 33), (0, 20)]) rfl (fun f114 H114 locs114 hF114 hP114 hD114 hS114 => ?_)
  have hP114 : va_P D cls [(a0, .inr (14, rg 107 f110)), (q2, .inl (ca 2, 3000, .inl f2)), (q4, .inl (ca 2, 20, .inl f4)), (q6, .inl (ca 5, 2, .inr (.inr (.inr (.inr f12))))), (q7, .inr (13, rg 81 x8_0)), (q10, .inr (13, rg 81 x11_0)), (q14, .inr (13, rg 81 x15_0)), (q17, .inl (ca 0, 3001, .inl f17)), (q19, .inl (ca 0, 3001, .inl f19)), (q111, .inl (ca 0, 8, .inl f114))] H114 := hP114
  have hD114 : va_D A [(a0, .inr (14, rg 107 f110)), (q2, .inl (ca 2, 3000, .inl f2)), (q4, .inl (ca 2, 20, .inl f4)), (q6, .inl (ca 5, 2, .inr (.inr (.inr (.inr f12))))), (q7, .inr (13, rg 81 x8_0)), (q10, .inr (13, rg 81 x11_0)), (q14, .inr (13, rg 81 x15_0)), (q17, .inl (ca 0, 3001, .inl f17)), (q19, .inl (ca 0, 3001, .inl f19)), (q111, .inl (ca 0, 8, .inl f114))] := hD114
  clear hP113 hD113 hS113 hF113
  refine lv_dup hx hb d_15_11_497 rfl ?_
  refine lv_iconst (v := 3) hx hb d_15_11_498 (by decide) ?_
  refine lv_bipush (v := 59) hx hb d_15_11_499 (by decide) ?_
  refine gast hx hb hK hP114 hD114 hS114 9 0 rfl rfl hF114 (k := 3) (by decide) (vinC (by decide)) d_15_11_501 (L' := [(3, 59), (2, 46), (1, 33), (0, 20)]) rfl (fun f115 H115 locs115 hF115 hP115 hD115 hS115 => ?_)
  have hP115 : va_P D cls [(a0, .inr (14, rg 107 f110)), (q2, .inl (ca 2, 3000, .inl f2)), (q4, .inl (ca 2, 20, .inl f4)), (q6, .inl (ca 5, 2, .inr (.inr (.inr (.inr f12))))), (q7, .inr (13, rg 81 x8_0)), (q10, .inr (13, rg 81 x11_0)), (q14, .inr (13, rg 81 x15_0)), (q17, .inl (ca 0, 3001, .inl f17)), (q19, .inl (ca 0, 3001, .inl f19)), (q111, .inl (ca 0, 8, .inl f115))] H115 := hP115
  have hD115 : va_D A [(a0, .inr (14, rg 107 f110)), (q2, .inl (ca 2, 3000, .inl f2)), (q4, .inl (ca 2, 20, .inl f4)), (q6, .inl (ca 5, 2, .inr (.inr (.inr (.inr f12))))), (q7, .inr (13, rg 81 x8_0)), (q10, .inr (13, rg 81 x11_0)), (q14, .inr (13, rg 81 x15_0)), (q17, .inl (ca 0, 3001, .inl f17)), (q19, .inl (ca 0, 3001, .inl f19)), (q111, .inl (ca 0, 8, .inl f115))] := hD115
  clear hP114 hD114 hS114 hF114
  refine lv_dup hx hb d_15_11_502 rfl ?_
  refine lv_iconst (v := 4) hx hb d_15_11_503 (by decide) ?_
  refine lv_bipush (v := 72) hx hb d_15_11_504 (by decide) ?_
  refine gast hx hb hK hP115 hD115 hS115 9 0 rfl rfl hF115 (k := 4) (by decide) (vinC (by decide)) d_15_11_506 (L' := [(4, 72), (3, 59), (2, 46), (1, 33), (0, 20)]) rfl (fun f116 H116 locs116 hF116 hP116 hD116 hS116 => ?_)
  have hP116 : va_P D cls [(a0, .inr (14, rg 107 f110)), (q2, .inl (ca 2, 3000, .inl f2)), (q4, .inl (ca 2, 20, .inl f4)), (q6, .inl (ca 5, 2, .inr (.inr (.inr (.inr f12))))), (q7, .inr (13, rg 81 x8_0)), (q10, .inr (13, rg 81 x11_0)), (q14, .inr (13, rg 81 x15_0)), (q17, .inl (ca 0, 3001, .inl f17)), (q19, .inl (ca 0, 3001, .inl f19)), (q111, .inl (ca 0, 8, .inl f116))] H116 := hP116
  have hD116 : va_D A [(a0, .inr (14, rg 107 f110)), (q2, .inl (ca 2, 3000, .inl f2)), (q4, .inl (ca 2, 20, .inl f4)), (q6, .inl (ca 5, 2, .inr (.inr (.inr (.inr f12))))), (q7, .inr (13, rg 81 x8_0)), (q10, .inr (13, rg 81 x11_0)), (q14, .inr (13, rg 81 x15_0)), (q17, .inl (ca 0, 3001, .inl f17)), (q19, .inl (ca 0, 3001, .inl f19)), (q111, .inl (ca 0, 8, .inl f116))] := hD116
  clear hP115 hD115 hS115 hF115
  refine lv_dup hx hb d_15_11_507 rfl ?_
  refine lv_iconst (v := 5) hx hb d_15_11_508 (by decide) ?_
  refine lv_bipush (v := 85) hx hb d_15_11_509 (by decide) ?_
  refine gast hx hb hK hP116 hD116 hS116 9 0 rfl rfl hF116 (k := 5) (by decide) (vinC (by decide)) d_15_11_511 (L' := [(5, 85), (4, 72), (3, 59), (2, 46), (1, 33), (0, 20)]) rfl (fun f117 H117 locs117 hF117 hP117 hD117 hS117 => ?_)
  have hP117 : va_P D cls [(a0, .inr (14, rg 107 f110)), (q2, .inl (ca 2, 3000, .inl f2)), (q4, .inl (ca 2, 20, .inl f4)), (q6, .inl (ca 5, 2, .inr (.inr (.inr (.inr f12))))), (q7, .inr (13, rg 81 x8_0)), (q10, .inr (13, rg 81 x11_0)), (q14, .inr (13, rg 81 x15_0)), (q17, .inl (ca 0, 3001, .inl f17)), (q19, .inl (ca 0, 3001, .inl f19)), (q111, .inl (ca 0, 8, .inl f117))] H117 := hP117
  have hD117 : va_D A [(a0, .inr (14, rg 107 f110)), (q2, .inl (ca 2, 3000, .inl f2)), (q4, .inl (ca 2, 20, .inl f4)), (q6, .inl (ca 5, 2, .inr (.inr (.inr (.inr f12))))), (q7, .inr (13, rg 81 x8_0)), (q10, .inr (13, rg 81 x11_0)), (q14, .inr (13, rg 81 x15_0)), (q17, .inl (ca 0, 3001, .inl f17)), (q19, .inl (ca 0, 3001, .inl f19)), (q111, .inl (ca 0, 8, .inl f117))] := hD117
  clear hP116 hD116 hS116 hF116
  refine lv_dup hx hb d_15_11_512 rfl ?_
  refine lv_bipush (v := 6) hx hb d_15_11_513 (by decide) ?_
  refine lv_bipush (v := 98) hx hb d_15_11_515 (by decide) ?_
  refine gast hx hb hK hP117 hD117 hS117 9 0 rfl rfl hF117 (k := 6) (by decide) (vinC (by decide)) d_15_11_517 (L' := [(6, 98), (5, 85), (4, 72), (3, 59), (2, 46), (1, 33), (0, 20)]) rfl (fun f118 H118 locs118 hF118 hP118 hD118 hS118 => ?_)
  have hP118 : va_P D cls [(a0, .inr (14, rg 107 f110)), (q2, .inl (ca 2, 3000, .inl f2)), (q4, .inl (ca 2, 20, .inl f4)), (q6, .inl (ca 5, 2, .inr (.inr (.inr (.inr f12))))), (q7, .inr (13, rg 81 x8_0)), (q10, .inr (13, rg 81 x11_0)), (q14, .inr (13, rg 81 x15_0)), (q17, .inl (ca 0, 3001, .inl f17)), (q19, .inl (ca 0, 3001, .inl f19)), (q111, .inl (ca 0, 8, .inl f118))] H118 := hP118
  have hD118 : va_D A [(a0, .inr (14, rg 107 f110)), (q2, .inl (ca 2, 3000, .inl f2)), (q4, .inl (ca 2, 20, .inl f4)), (q6, .inl (ca 5, 2, .inr (.inr (.inr (.inr f12))))), (q7, .inr (13, rg 81 x8_0)), (q10, .inr (13, rg 81 x11_0)), (q14, .inr (13, rg 81 x15_0)), (q17, .inl (ca 0, 3001, .inl f17)), (q19, .inl (ca 0, 3001, .inl f19)), (q111, .inl (ca 0, 8, .inl f118))] := hD118
  clear hP117 hD117 hS117 hF117
  refine lv_dup hx hb d_15_11_518 rfl ?_
  refine lv_bipush (v := 7) hx hb d_15_11_519 (by decide) ?_
  refine lv_bipush (v := 111) hx hb d_15_11_521 (by decide) ?_
  refine gast hx hb hK hP118 hD118 hS118 9 0 rfl rfl hF118 (k := 7) (by decide) (vinC (by decide)) d_15_11_523 (L' := [(7, 111), (6, 98), (5, 85), (4, 72), (3, 59), (2, 46), (1, 33), (0, 20)]) rfl (fun f119 H119 locs119 hF119 hP119 hD119 hS119 => ?_)
  have hP119 : va_P D cls [(a0, .inr (14, rg 107 f110)), (q2, .inl (ca 2, 3000, .inl f2)), (q4, .inl (ca 2, 20, .inl f4)), (q6, .inl (ca 5, 2, .inr (.inr (.inr (.inr f12))))), (q7, .inr (13, rg 81 x8_0)), (q10, .inr (13, rg 81 x11_0)), (q14, .inr (13, rg 81 x15_0)), (q17, .inl (ca 0, 3001, .inl f17)), (q19, .inl (ca 0, 3001, .inl f19)), (q111, .inl (ca 0, 8, .inl f119))] H119 := hP119
  have hD119 : va_D A [(a0, .inr (14, rg 107 f110)), (q2, .inl (ca 2, 3000, .inl f2)), (q4, .inl (ca 2, 20, .inl f4)), (q6, .inl (ca 5, 2, .inr (.inr (.inr (.inr f12))))), (q7, .inr (13, rg 81 x8_0)), (q10, .inr (13, rg 81 x11_0)), (q14, .inr (13, rg 81 x15_0)), (q17, .inl (ca 0, 3001, .inl f17)), (q19, .inl (ca 0, 3001, .inl f19)), (q111, .inl (ca 0, 8, .inl f119))] := hD119
  clear hP118 hD118 hS118 hF118
  refine gputFX hx hb hts inW_14 tyX14 tyX14_ok nmX14 hown hK hP119 hD119 hS119 0 rfl rfl hF110 61 (by decide) k_11_59 rfl hnm rfl rfl rfl d_15_11_524 (L' := [(8, .ref q19), (7, .ref q17), (6, .ref q14), (5, .ref q6), (4, .ref q4), (2, .ref q2)]) rfl (fun f120 H120 locs120 hF120 hm120 hP120 hD120 hS120 => ?_)
  have hM120 := gM.tr hM110 hm120
  have hP120 : va_P D cls [(a0, .inr (14, rg 107 f120)), (q2, .inl (ca 2, 3000, .inl f2)), (q4, .inl (ca 2, 20, .inl f4)), (q6, .inl (ca 5, 2, .inr (.inr (.inr (.inr f12))))), (q7, .inr (13, rg 81 x8_0)), (q10, .inr (13, rg 81 x11_0)), (q14, .inr (13, rg 81 x15_0)), (q17, .inl (ca 0, 3001, .inl f17)), (q19, .inl (ca 0, 3001, .inl f19)), (q111, .inl (ca 0, 8, .inl f119))] H120 := hP120
  have hD120 : va_D A [(a0, .inr (14, rg 107 f120)), (q2, .inl (ca 2, 3000, .inl f2)), (q4, .inl (ca 2, 20, .inl f4)), (q6, .inl (ca 5, 2, .inr (.inr (.inr (.inr f12))))), (q7, .inr (13, rg 81 x8_0)), (q10, .inr (13, rg 81 x11_0)), (q14, .inr (13, rg 81 x15_0)), (q17, .inl (ca 0, 3001, .inl f17)), (q19, .inl (ca 0, 3001, .inl f19)), (q111, .inl (ca 0, 8, .inl f119))] := hD120
  clear hP119 hD119 hS119 hF110 hM110 hm120
  have hP121 := hP120.sub (ws' := [(a0, .inr (14, rg 107 f120)), (q2, .inl (ca 2, 3000, .inl f2)), (q4, .inl (ca 2, 20, .inl f4)), (q6, .inl (ca 5, 2, .inr (.inr (.inr (.inr f12))))), (q7, .inr (13, rg 81 x8_0)), (q10, .inr (13, rg 81 x11_0)), (q14, .inr (13, rg 81 x15_0)), (q17, .inl (ca 0, 3001, .inl f17)), (q19, .inl (ca 0, 3001, .inl f19))]) [0, 1, 2, 3, 4, 5, 6, 7, 8] rfl
  have hD121 := hD120.sub (ws' := [(a0, .inr (14, rg 107 f120)), (q2, .inl (ca 2, 3000, .inl f2)), (q4, .inl (ca 2, 20, .inl f4)), (q6, .inl (ca 5, 2, .inr (.inr (.inr (.inr f12))))), (q7, .inr (13, rg 81 x8_0)), (q10, .inr (13, rg 81 x11_0)), (q14, .inr (13, rg 81 x15_0)), (q17, .inl (ca 0, 3001, .inl f17)), (q19, .inl (ca 0, 3001, .inl f19))]) [0, 1, 2, 3, 4, 5, 6, 7, 8] (by decide) rfl
  refine lv_aload_n hx hb d_15_11_527 rfl (lv_at hl 0 rfl) ?_
  refine lv_sipush (v := 2000) hx hb d_15_11_528 (by decide) ?_
  refine gnewaX (atype := .int) hx hb hts k_1_57 hP121 hS120 (by decide) (N' := 2000) (by decide) (Nat.le_of_ble_eq_true rfl) (Nat.le_of_ble_eq_true rfl) (Nat.le_of_ble_eq_true rfl) d_15_11_531 (fun q122 H122 hP122 hS122 => ?_)
  clear hP121 hS120
  refine W.widen (k := 217) (n := 595978) (Nat.le_of_ble_eq_true rfl) (Nat.le_of_ble_eq_true rfl) ?_
  refine gputFX hx hb hts inW_14 tyX14 tyX14_ok nmX14 hown hK hP122 hD121 hS122 0 rfl rfl hF120 63 (by decide) k_11_61 rfl hnm rfl rfl rfl d_15_11_533 (L' := [(8, .ref q19), (7, .ref q17), (6, .ref q14), (5, .ref q6), (4, .ref q4), (2, .ref q2)]) rfl (fun f123 H123 locs123 hF123 hm123 hP123 hD123 hS123 => ?_)
  have hM123 := gM.tr hM120 hm123
  have hP123 : va_P D cls [(a0, .inr (14, rg 107 f123)), (q2, .inl (ca 2, 3000, .inl f2)), (q4, .inl (ca 2, 20, .inl f4)), (q6, .inl (ca 5, 2, .inr (.inr (.inr (.inr f12))))), (q7, .inr (13, rg 81 x8_0)), (q10, .inr (13, rg 81 x11_0)), (q14, .inr (13, rg 81 x15_0)), (q17, .inl (ca 0, 3001, .inl f17)), (q19, .inl (ca 0, 3001, .inl f19))] H123 := hP123
  have hD123 : va_D A [(a0, .inr (14, rg 107 f123)), (q2, .inl (ca 2, 3000, .inl f2)), (q4, .inl (ca 2, 20, .inl f4)), (q6, .inl (ca 5, 2, .inr (.inr (.inr (.inr f12))))), (q7, .inr (13, rg 81 x8_0)), (q10, .inr (13, rg 81 x11_0)), (q14, .inr (13, rg 81 x15_0)), (q17, .inl (ca 0, 3001, .inl f17)), (q19, .inl (ca 0, 3001, .inl f19))] := hD123
  clear hP122 hD121 hS122 hF120 hM120 hm123
  refine lv_aload_n hx hb d_15_11_536 rfl (lv_at hl 0 rfl) ?_
  refine lv_sipush (v := 2000) hx hb d_15_11_537 (by decide) ?_
  refine gnewaX (atype := .int) hx hb hts k_1_57 hP123 hS123 (by decide) (N' := 2000) (by decide) (Nat.le_of_ble_eq_true rfl) (Nat.le_of_ble_eq_true rfl) (Nat.le_of_ble_eq_true rfl) d_15_11_540 (fun q124 H124 hP124 hS124 => ?_)
  clear hP123 hS123
  refine W.widen (k := 218) (n := 597978) (Nat.le_of_ble_eq_true rfl) (Nat.le_of_ble_eq_true rfl) ?_
  refine gputFX hx hb hts inW_14 tyX14 tyX14_ok nmX14 hown hK hP124 hD123 hS124 0 rfl rfl hF123 64 (by decide) k_11_62 rfl hnm rfl rfl rfl d_15_11_542 (L' := [(8, .ref q19), (7, .ref q17), (6, .ref q14), (5, .ref q6), (4, .ref q4), (2, .ref q2)]) rfl (fun f125 H125 locs125 hF125 hm125 hP125 hD125 hS125 => ?_)
  have hM125 := gM.tr hM123 hm125
  have hP125 : va_P D cls [(a0, .inr (14, rg 107 f125)), (q2, .inl (ca 2, 3000, .inl f2)), (q4, .inl (ca 2, 20, .inl f4)), (q6, .inl (ca 5, 2, .inr (.inr (.inr (.inr f12))))), (q7, .inr (13, rg 81 x8_0)), (q10, .inr (13, rg 81 x11_0)), (q14, .inr (13, rg 81 x15_0)), (q17, .inl (ca 0, 3001, .inl f17)), (q19, .inl (ca 0, 3001, .inl f19))] H125 := hP125
  have hD125 : va_D A [(a0, .inr (14, rg 107 f125)), (q2, .inl (ca 2, 3000, .inl f2)), (q4, .inl (ca 2, 20, .inl f4)), (q6, .inl (ca 5, 2, .inr (.inr (.inr (.inr f12))))), (q7, .inr (13, rg 81 x8_0)), (q10, .inr (13, rg 81 x11_0)), (q14, .inr (13, rg 81 x15_0)), (q17, .inl (ca 0, 3001, .inl f17)), (q19, .inl (ca 0, 3001, .inl f19))] := hD125
  clear hP124 hD123 hS124 hF123 hM123 hm125
  refine lv_aload_n hx hb d_15_11_545 rfl (lv_at hl 0 rfl) ?_
  refine lv_sipush (v := 2000) hx hb d_15_11_546 (by decide) ?_
  refine gnewaX (atype := .int) hx hb hts k_1_57 hP125 hS125 (by decide) (N' := 2000) (by decide) (Nat.le_of_ble_eq_true rfl) (Nat.le_of_ble_eq_true rfl) (Nat.le_of_ble_eq_true rfl) d_15_11_549 (fun q126 H126 hP126 hS126 => ?_)
  clear hP125 hS125
  refine W.widen (k := 219) (n := 599978) (Nat.le_of_ble_eq_true rfl) (Nat.le_of_ble_eq_true rfl) ?_
  refine gputFX hx hb hts inW_14 tyX14 tyX14_ok nmX14 hown hK hP126 hD125 hS126 0 rfl rfl hF125 65 (by decide) k_11_63 rfl hnm rfl rfl rfl d_15_11_551 (L' := [(8, .ref q19), (7, .ref q17), (6, .ref q14), (5, .ref q6), (4, .ref q4), (2, .ref q2)]) rfl (fun f127 H127 locs127 hF127 hm127 hP127 hD127 hS127 => ?_)
  have hM127 := gM.tr hM125 hm127
  have hP127 : va_P D cls [(a0, .inr (14, rg 107 f127)), (q2, .inl (ca 2, 3000, .inl f2)), (q4, .inl (ca 2, 20, .inl f4)), (q6, .inl (ca 5, 2, .inr (.inr (.inr (.inr f12))))), (q7, .inr (13, rg 81 x8_0)), (q10, .inr (13, rg 81 x11_0)), (q14, .inr (13, rg 81 x15_0)), (q17, .inl (ca 0, 3001, .inl f17)), (q19, .inl (ca 0, 3001, .inl f19))] H127 := hP127
  have hD127 : va_D A [(a0, .inr (14, rg 107 f127)), (q2, .inl (ca 2, 3000, .inl f2)), (q4, .inl (ca 2, 20, .inl f4)), (q6, .inl (ca 5, 2, .inr (.inr (.inr (.inr f12))))), (q7, .inr (13, rg 81 x8_0)), (q10, .inr (13, rg 81 x11_0)), (q14, .inr (13, rg 81 x15_0)), (q17, .inl (ca 0, 3001, .inl f17)), (q19, .inl (ca 0, 3001, .inl f19))] := hD127
  clear hP126 hD125 hS126 hF125 hM125 hm127
  refine lv_aload_n hx hb d_15_11_554 rfl (lv_at hl 0 rfl) ?_
  refine lv_sipush (v := 2000) hx hb d_15_11_555 (by decide) ?_
  refine gnewaX (atype := .int) hx hb hts k_1_57 hP127 hS127 (by decide) (N' := 2000) (by decide) (Nat.le_of_ble_eq_true rfl) (Nat.le_of_ble_eq_true rfl) (Nat.le_of_ble_eq_true rfl) d_15_11_558 (fun q128 H128 hP128 hS128 => ?_)
  clear hP127 hS127
  refine W.widen (k := 220) (n := 601978) (Nat.le_of_ble_eq_true rfl) (Nat.le_of_ble_eq_true rfl) ?_
  refine gputFX hx hb hts inW_14 tyX14 tyX14_ok nmX14 hown hK hP128 hD127 hS128 0 rfl rfl hF127 66 (by decide) k_11_64 rfl hnm rfl rfl rfl d_15_11_560 (L' := [(8, .ref q19), (7, .ref q17), (6, .ref q14), (5, .ref q6), (4, .ref q4), (2, .ref q2)]) rfl (fun f129 H129 locs129 hF129 hm129 hP129 hD129 hS129 => ?_)
  have hM129 := gM.tr hM127 hm129
  have hP129 : va_P D cls [(a0, .inr (14, rg 107 f129)), (q2, .inl (ca 2, 3000, .inl f2)), (q4, .inl (ca 2, 20, .inl f4)), (q6, .inl (ca 5, 2, .inr (.inr (.inr (.inr f12))))), (q7, .inr (13, rg 81 x8_0)), (q10, .inr (13, rg 81 x11_0)), (q14, .inr (13, rg 81 x15_0)), (q17, .inl (ca 0, 3001, .inl f17)), (q19, .inl (ca 0, 3001, .inl f19))] H129 := hP129
  have hD129 : va_D A [(a0, .inr (14, rg 107 f129)), (q2, .inl (ca 2, 3000, .inl f2)), (q4, .inl (ca 2, 20, .inl f4)), (q6, .inl (ca 5, 2, .inr (.inr (.inr (.inr f12))))), (q7, .inr (13, rg 81 x8_0)), (q10, .inr (13, rg 81 x11_0)), (q14, .inr (13, rg 81 x15_0)), (q17, .inl (ca 0, 3001, .inl f17)), (q19, .inl (ca 0, 3001, .inl f19))] := hD129
  clear hP128 hD127 hS128 hF127 hM127 hm129
  refine lv_aload_n hx hb d_15_11_563 rfl (lv_at hl 0 rfl) ?_
  refine lv_sipush (v := 2000) hx hb d_15_11_564 (by decide) ?_
  refine gnewaX (atype := .int) hx hb hts k_1_57 hP129 hS129 (by decide) (N' := 2000) (by decide) (Nat.le_of_ble_eq_true rfl) (Nat.le_of_ble_eq_true rfl) (Nat.le_of_ble_eq_true rfl) d_15_11_567 (fun q130 H130 hP130 hS130 => ?_)
  clear hP129 hS129
  refine W.widen (k := 221) (n := 603978) (Nat.le_of_ble_eq_true rfl) (Nat.le_of_ble_eq_true rfl) ?_
  refine gputFX hx hb hts inW_14 tyX14 tyX14_ok nmX14 hown hK hP130 hD129 hS130 0 rfl rfl hF129 67 (by decide) k_11_65 rfl hnm rfl rfl rfl d_15_11_569 (L' := [(8, .ref q19), (7, .ref q17), (6, .ref q14), (5, .ref q6), (4, .ref q4), (2, .ref q2)]) rfl (fun f131 H131 locs131 hF131 hm131 hP131 hD131 hS131 => ?_)
  have hM131 := gM.tr hM129 hm131
  have hP131 : va_P D cls [(a0, .inr (14, rg 107 f131)), (q2, .inl (ca 2, 3000, .inl f2)), (q4, .inl (ca 2, 20, .inl f4)), (q6, .inl (ca 5, 2, .inr (.inr (.inr (.inr f12))))), (q7, .inr (13, rg 81 x8_0)), (q10, .inr (13, rg 81 x11_0)), (q14, .inr (13, rg 81 x15_0)), (q17, .inl (ca 0, 3001, .inl f17)), (q19, .inl (ca 0, 3001, .inl f19))] H131 := hP131
  have hD131 : va_D A [(a0, .inr (14, rg 107 f131)), (q2, .inl (ca 2, 3000, .inl f2)), (q4, .inl (ca 2, 20, .inl f4)), (q6, .inl (ca 5, 2, .inr (.inr (.inr (.inr f12))))), (q7, .inr (13, rg 81 x8_0)), (q10, .inr (13, rg 81 x11_0)), (q14, .inr (13, rg 81 x15_0)), (q17, .inl (ca 0, 3001, .inl f17)), (q19, .inl (ca 0, 3001, .inl f19))] := hD131
  clear hP130 hD129 hS130 hF129 hM129 hm131
  refine lv_aload_n hx hb d_15_11_572 rfl (lv_at hl 0 rfl) ?_
  refine lv_sipush (v := 2000) hx hb d_15_11_573 (by decide) ?_
  refine gnewaX (atype := .int) hx hb hts k_1_57 hP131 hS131 (by decide) (N' := 2000) (by decide) (Nat.le_of_ble_eq_true rfl) (Nat.le_of_ble_eq_true rfl) (Nat.le_of_ble_eq_true rfl) d_15_11_576 (fun q132 H132 hP132 hS132 => ?_)
  clear hP131 hS131
  refine W.widen (k := 222) (n := 605978) (Nat.le_of_ble_eq_true rfl) (Nat.le_of_ble_eq_true rfl) ?_
  refine gputFX hx hb hts inW_14 tyX14 tyX14_ok nmX14 hown hK hP132 hD131 hS132 0 rfl rfl hF131 68 (by decide) k_11_66 rfl hnm rfl rfl rfl d_15_11_578 (L' := [(8, .ref q19), (7, .ref q17), (6, .ref q14), (5, .ref q6), (4, .ref q4), (2, .ref q2)]) rfl (fun f133 H133 locs133 hF133 hm133 hP133 hD133 hS133 => ?_)
  have hM133 := gM.tr hM131 hm133
  have hP133 : va_P D cls [(a0, .inr (14, rg 107 f133)), (q2, .inl (ca 2, 3000, .inl f2)), (q4, .inl (ca 2, 20, .inl f4)), (q6, .inl (ca 5, 2, .inr (.inr (.inr (.inr f12))))), (q7, .inr (13, rg 81 x8_0)), (q10, .inr (13, rg 81 x11_0)), (q14, .inr (13, rg 81 x15_0)), (q17, .inl (ca 0, 3001, .inl f17)), (q19, .inl (ca 0, 3001, .inl f19))] H133 := hP133
  have hD133 : va_D A [(a0, .inr (14, rg 107 f133)), (q2, .inl (ca 2, 3000, .inl f2)), (q4, .inl (ca 2, 20, .inl f4)), (q6, .inl (ca 5, 2, .inr (.inr (.inr (.inr f12))))), (q7, .inr (13, rg 81 x8_0)), (q10, .inr (13, rg 81 x11_0)), (q14, .inr (13, rg 81 x15_0)), (q17, .inl (ca 0, 3001, .inl f17)), (q19, .inl (ca 0, 3001, .inl f19))] := hD133
  clear hP132 hD131 hS132 hF131 hM131 hm133
  refine lv_aload_n hx hb d_15_11_581 rfl (lv_at hl 0 rfl) ?_
  refine lv_sipush (v := 4000) hx hb d_15_11_582 (by decide) ?_
  refine gnewaX (atype := .int) hx hb hts k_1_57 hP133 hS133 (by decide) (N' := 4000) (by decide) (Nat.le_of_ble_eq_true rfl) (Nat.le_of_ble_eq_true rfl) (Nat.le_of_ble_eq_true rfl) d_15_11_585 (fun q134 H134 hP134 hS134 => ?_)
  clear hP133 hS133
  refine W.widen (k := 223) (n := 609978) (Nat.le_of_ble_eq_true rfl) (Nat.le_of_ble_eq_true rfl) ?_
  refine gputFX hx hb hts inW_14 tyX14 tyX14_ok nmX14 hown hK hP134 hD133 hS134 0 rfl rfl hF133 69 (by decide) k_11_67 rfl hnm rfl rfl rfl d_15_11_587 (L' := [(8, .ref q19), (7, .ref q17), (6, .ref q14), (5, .ref q6), (4, .ref q4), (2, .ref q2)]) rfl (fun f135 H135 locs135 hF135 hm135 hP135 hD135 hS135 => ?_)
  have hM135 := gM.tr hM133 hm135
  have hP135 : va_P D cls [(a0, .inr (14, rg 107 f135)), (q2, .inl (ca 2, 3000, .inl f2)), (q4, .inl (ca 2, 20, .inl f4)), (q6, .inl (ca 5, 2, .inr (.inr (.inr (.inr f12))))), (q7, .inr (13, rg 81 x8_0)), (q10, .inr (13, rg 81 x11_0)), (q14, .inr (13, rg 81 x15_0)), (q17, .inl (ca 0, 3001, .inl f17)), (q19, .inl (ca 0, 3001, .inl f19))] H135 := hP135
  have hD135 : va_D A [(a0, .inr (14, rg 107 f135)), (q2, .inl (ca 2, 3000, .inl f2)), (q4, .inl (ca 2, 20, .inl f4)), (q6, .inl (ca 5, 2, .inr (.inr (.inr (.inr f12))))), (q7, .inr (13, rg 81 x8_0)), (q10, .inr (13, rg 81 x11_0)), (q14, .inr (13, rg 81 x15_0)), (q17, .inl (ca 0, 3001, .inl f17)), (q19, .inl (ca 0, 3001, .inl f19))] := hD135
  clear hP134 hD133 hS134 hF133 hM133 hm135
  refine lv_aload_n hx hb d_15_11_590 rfl (lv_at hl 0 rfl) ?_
  refine lv_ldc hx hb hown (hts _ k_10_237) d_15_11_591 ?_
  refine gnewaX (atype := .byte) hx hb hts k_4_180 hP135 hS135 (by decide) (N' := 40000) (by decide) (Nat.le_of_ble_eq_true rfl) (Nat.le_of_ble_eq_true rfl) (Nat.le_of_ble_eq_true rfl) d_15_11_593 (fun q136 H136 hP136 hS136 => ?_)
  clear hP135 hS135
  refine W.widen (k := 224) (n := 649978) (Nat.le_of_ble_eq_true rfl) (Nat.le_of_ble_eq_true rfl) ?_
  refine gputFX hx hb hts inW_14 tyX14 tyX14_ok nmX14 hown hK hP136 hD135 hS136 0 rfl rfl hF135 70 (by decide) k_11_68 rfl hnm rfl rfl rfl d_15_11_595 (L' := [(8, .ref q19), (7, .ref q17), (6, .ref q14), (5, .ref q6), (4, .ref q4), (2, .ref q2)]) rfl (fun f137 H137 locs137 hF137 hm137 hP137 hD137 hS137 => ?_)
  have hM137 := gM.tr hM135 hm137
  have hP137 : va_P D cls [(a0, .inr (14, rg 107 f137)), (q2, .inl (ca 2, 3000, .inl f2)), (q4, .inl (ca 2, 20, .inl f4)), (q6, .inl (ca 5, 2, .inr (.inr (.inr (.inr f12))))), (q7, .inr (13, rg 81 x8_0)), (q10, .inr (13, rg 81 x11_0)), (q14, .inr (13, rg 81 x15_0)), (q17, .inl (ca 0, 3001, .inl f17)), (q19, .inl (ca 0, 3001, .inl f19))] H137 := hP137
  have hD137 : va_D A [(a0, .inr (14, rg 107 f137)), (q2, .inl (ca 2, 3000, .inl f2)), (q4, .inl (ca 2, 20, .inl f4)), (q6, .inl (ca 5, 2, .inr (.inr (.inr (.inr f12))))), (q7, .inr (13, rg 81 x8_0)), (q10, .inr (13, rg 81 x11_0)), (q14, .inr (13, rg 81 x15_0)), (q17, .inl (ca 0, 3001, .inl f17)), (q19, .inl (ca 0, 3001, .inl f19))] := hD137
  clear hP136 hD135 hS136 hF135 hM135 hm137
  refine lv_aload_n hx hb d_15_11_598 rfl (lv_at hl 0 rfl) ?_
  refine lv_bipush (v := 8) hx hb d_15_11_599 (by decide) ?_
  refine gnewaX (atype := .int) hx hb hts k_1_57 hP137 hS137 (by decide) (N' := 8) (by decide) (Nat.le_of_ble_eq_true rfl) (Nat.le_of_ble_eq_true rfl) (Nat.le_of_ble_eq_true rfl) d_15_11_601 (fun q138 H138 hP138 hS138 => ?_)
  clear hP137 hS137
  refine W.widen (k := 225) (n := 649986) (Nat.le_of_ble_eq_true rfl) (Nat.le_of_ble_eq_true rfl) ?_
  refine gputFX hx hb hts inW_14 tyX14 tyX14_ok nmX14 hown hK hP138 hD137 hS138 0 rfl rfl hF137 73 (by decide) k_11_71 rfl hnm rfl rfl rfl d_15_11_603 (L' := [(8, .ref q19), (7, .ref q17), (6, .ref q14), (5, .ref q6), (4, .ref q4), (2, .ref q2)]) rfl (fun f139 H139 locs139 hF139 hm139 hP139 hD139 hS139 => ?_)
  have hM139 := gM.tr hM137 hm139
  have hP139 : va_P D cls [(a0, .inr (14, rg 107 f139)), (q2, .inl (ca 2, 3000, .inl f2)), (q4, .inl (ca 2, 20, .inl f4)), (q6, .inl (ca 5, 2, .inr (.inr (.inr (.inr f12))))), (q7, .inr (13, rg 81 x8_0)), (q10, .inr (13, rg 81 x11_0)), (q14, .inr (13, rg 81 x15_0)), (q17, .inl (ca 0, 3001, .inl f17)), (q19, .inl (ca 0, 3001, .inl f19))] H139 := hP139
  have hD139 : va_D A [(a0, .inr (14, rg 107 f139)), (q2, .inl (ca 2, 3000, .inl f2)), (q4, .inl (ca 2, 20, .inl f4)), (q6, .inl (ca 5, 2, .inr (.inr (.inr (.inr f12))))), (q7, .inr (13, rg 81 x8_0)), (q10, .inr (13, rg 81 x11_0)), (q14, .inr (13, rg 81 x15_0)), (q17, .inl (ca 0, 3001, .inl f17)), (q19, .inl (ca 0, 3001, .inl f19))] := hD139
  clear hP138 hD137 hS138 hF137 hM137 hm139
  refine lv_aload_n hx hb d_15_11_606 rfl (lv_at hl 0 rfl) ?_
  refine lv_bipush (v := 8) hx hb d_15_11_607 (by decide) ?_
  refine gnewa (atype := .int) hx hb hts (ty := .int) rfl k_1_57 hK 0 rfl (fun _ _ => gu_int) hP139 hD139 hS139 hA (a0 := (8, .inl (fun _ => 0))) (fun _ => rfl) (by decide) (N' := 8) (by decide) (Nat.le_of_ble_eq_true rfl) (Nat.le_of_ble_eq_true rfl) (Nat.le_of_ble_eq_true rfl) d_15_11_609 (fun q140 H140 hP140 hD140 hS140 => ?_)
  obtain ⟨f140, hF140, hP140, hD140⟩ : ∃ f : Nat → Int32, gF f [] ∧ va_P D cls ([(a0, .inr (14, rg 107 f139)), (q2, .inl (ca 2, 3000, .inl f2)), (q4, .inl (ca 2, 20, .inl f4)), (q6, .inl (ca 5, 2, .inr (.inr (.inr (.inr f12))))), (q7, .inr (13, rg 81 x8_0)), (q10, .inr (13, rg 81 x11_0)), (q14, .inr (13, rg 81 x15_0)), (q17, .inl (ca 0, 3001, .inl f17)), (q19, .inl (ca 0, 3001, .inl f19))] ++ [(q140, .inl (ca 0, 8, .inl f))]) H140 ∧ va_D A ([(a0, .inr (14, rg 107 f139)), (q2, .inl (ca 2, 3000, .inl f2)), (q4, .inl (ca 2, 20, .inl f4)), (q6, .inl (ca 5, 2, .inr (.inr (.inr (.inr f12))))), (q7, .inr (13, rg 81 x8_0)), (q10, .inr (13, rg 81 x11_0)), (q14, .inr (13, rg 81 x15_0)), (q17, .inl (ca 0, 3001, .inl f17)), (q19, .inl (ca 0, 3001, .inl f19))] ++ [(q140, .inl (ca 0, 8, .inl f))]) := ⟨_, gF_nil, hP140, hD140⟩
  have hP140 : va_P D cls [(a0, .inr (14, rg 107 f139)), (q2, .inl (ca 2, 3000, .inl f2)), (q4, .inl (ca 2, 20, .inl f4)), (q6, .inl (ca 5, 2, .inr (.inr (.inr (.inr f12))))), (q7, .inr (13, rg 81 x8_0)), (q10, .inr (13, rg 81 x11_0)), (q14, .inr (13, rg 81 x15_0)), (q17, .inl (ca 0, 3001, .inl f17)), (q19, .inl (ca 0, 3001, .inl f19)), (q140, .inl (ca 0, 8, .inl f140))] H140 := hP140
  have hD140 : va_D A [(a0, .inr (14, rg 107 f139)), (q2, .inl (ca 2, 3000, .inl f2)), (q4, .inl (ca 2, 20, .inl f4)), (q6, .inl (ca 5, 2, .inr (.inr (.inr (.inr f12))))), (q7, .inr (13, rg 81 x8_0)), (q10, .inr (13, rg 81 x11_0)), (q14, .inr (13, rg 81 x15_0)), (q17, .inl (ca 0, 3001, .inl f17)), (q19, .inl (ca 0, 3001, .inl f19)), (q140, .inl (ca 0, 8, .inl f140))] := hD140
  refine W.widen (k := 226) (n := 649994) (Nat.le_of_ble_eq_true rfl) (Nat.le_of_ble_eq_true rfl) ?_
  refine gputF hx hb hts inW_14 tyX14 tyX14_ok nmX14 hown hK hP140 hD140 hS140 0 rfl rfl hF139 74 (by decide) k_11_72 rfl hnm rfl rfl rfl d_15_11_611 (L' := [(74, .ref q140), (8, .ref q19), (7, .ref q17), (6, .ref q14), (5, .ref q6), (4, .ref q4), (2, .ref q2)]) rfl (fun f141 H141 locs141 hF141 hm141 hP141 hD141 hS141 => ?_)
  have hM141 := gM.tr hM139 hm141
  have hP141 : va_P D cls [(a0, .inr (14, rg 107 f141)), (q2, .inl (ca 2, 3000, .inl f2)), (q4, .inl (ca 2, 20, .inl f4)), (q6, .inl (ca 5, 2, .inr (.inr (.inr (.inr f12))))), (q7, .inr (13, rg 81 x8_0)), (q10, .inr (13, rg 81 x11_0)), (q14, .inr (13, rg 81 x15_0)), (q17, .inl (ca 0, 3001, .inl f17)), (q19, .inl (ca 0, 3001, .inl f19)), (q140, .inl (ca 0, 8, .inl f140))] H141 := hP141
  have hD141 : va_D A [(a0, .inr (14, rg 107 f141)), (q2, .inl (ca 2, 3000, .inl f2)), (q4, .inl (ca 2, 20, .inl f4)), (q6, .inl (ca 5, 2, .inr (.inr (.inr (.inr f12))))), (q7, .inr (13, rg 81 x8_0)), (q10, .inr (13, rg 81 x11_0)), (q14, .inr (13, rg 81 x15_0)), (q17, .inl (ca 0, 3001, .inl f17)), (q19, .inl (ca 0, 3001, .inl f19)), (q140, .inl (ca 0, 8, .inl f140))] := hD141
  clear hP140 hD140 hS140 hF139 hM139 hm141
  refine lv_aload_n hx hb d_15_11_614 rfl (lv_at hl 0 rfl) ?_
  refine lv_sipush (v := 400) hx hb d_15_11_615 (by decide) ?_
  refine gnewaX (atype := .int) hx hb hts k_1_57 hP141 hS141 (by decide) (N' := 400) (by decide) (Nat.le_of_ble_eq_true rfl) (Nat.le_of_ble_eq_true rfl) (Nat.le_of_ble_eq_true rfl) d_15_11_618 (fun q142 H142 hP142 hS142 => ?_)
  clear hP141 hS141
  refine W.widen (k := 227) (n := 650394) (Nat.le_of_ble_eq_true rfl) (Nat.le_of_ble_eq_true rfl) ?_
  refine gputFX hx hb hts inW_14 tyX14 tyX14_ok nmX14 hown hK hP142 hD141 hS142 0 rfl rfl hF141 75 (by decide) k_11_73 rfl hnm rfl rfl rfl d_15_11_620 (L' := [(74, .ref q140), (8, .ref q19), (7, .ref q17), (6, .ref q14), (5, .ref q6), (4, .ref q4), (2, .ref q2)]) rfl (fun f143 H143 locs143 hF143 hm143 hP143 hD143 hS143 => ?_)
  have hM143 := gM.tr hM141 hm143
  have hP143 : va_P D cls [(a0, .inr (14, rg 107 f143)), (q2, .inl (ca 2, 3000, .inl f2)), (q4, .inl (ca 2, 20, .inl f4)), (q6, .inl (ca 5, 2, .inr (.inr (.inr (.inr f12))))), (q7, .inr (13, rg 81 x8_0)), (q10, .inr (13, rg 81 x11_0)), (q14, .inr (13, rg 81 x15_0)), (q17, .inl (ca 0, 3001, .inl f17)), (q19, .inl (ca 0, 3001, .inl f19)), (q140, .inl (ca 0, 8, .inl f140))] H143 := hP143
  have hD143 : va_D A [(a0, .inr (14, rg 107 f143)), (q2, .inl (ca 2, 3000, .inl f2)), (q4, .inl (ca 2, 20, .inl f4)), (q6, .inl (ca 5, 2, .inr (.inr (.inr (.inr f12))))), (q7, .inr (13, rg 81 x8_0)), (q10, .inr (13, rg 81 x11_0)), (q14, .inr (13, rg 81 x15_0)), (q17, .inl (ca 0, 3001, .inl f17)), (q19, .inl (ca 0, 3001, .inl f19)), (q140, .inl (ca 0, 8, .inl f140))] := hD143
  clear hP142 hD141 hS142 hF141 hM141 hm143
  refine lv_aload_n hx hb d_15_11_623 rfl (lv_at hl 0 rfl) ?_
  refine lv_sipush (v := 400) hx hb d_15_11_624 (by decide) ?_
  refine gnewaX (atype := .int) hx hb hts k_1_57 hP143 hS143 (by decide) (N' := 400) (by decide) (Nat.le_of_ble_eq_true rfl) (Nat.le_of_ble_eq_true rfl) (Nat.le_of_ble_eq_true rfl) d_15_11_627 (fun q144 H144 hP144 hS144 => ?_)
  clear hP143 hS143
  refine W.widen (k := 228) (n := 650794) (Nat.le_of_ble_eq_true rfl) (Nat.le_of_ble_eq_true rfl) ?_
  refine gputFX hx hb hts inW_14 tyX14 tyX14_ok nmX14 hown hK hP144 hD143 hS144 0 rfl rfl hF143 76 (by decide) k_11_74 rfl hnm rfl rfl rfl d_15_11_629 (L' := [(74, .ref q140), (8, .ref q19), (7, .ref q17), (6, .ref q14), (5, .ref q6), (4, .ref q4), (2, .ref q2)]) rfl (fun f145 H145 locs145 hF145 hm145 hP145 hD145 hS145 => ?_)
  have hM145 := gM.tr hM143 hm145
  have hP145 : va_P D cls [(a0, .inr (14, rg 107 f145)), (q2, .inl (ca 2, 3000, .inl f2)), (q4, .inl (ca 2, 20, .inl f4)), (q6, .inl (ca 5, 2, .inr (.inr (.inr (.inr f12))))), (q7, .inr (13, rg 81 x8_0)), (q10, .inr (13, rg 81 x11_0)), (q14, .inr (13, rg 81 x15_0)), (q17, .inl (ca 0, 3001, .inl f17)), (q19, .inl (ca 0, 3001, .inl f19)), (q140, .inl (ca 0, 8, .inl f140))] H145 := hP145
  have hD145 : va_D A [(a0, .inr (14, rg 107 f145)), (q2, .inl (ca 2, 3000, .inl f2)), (q4, .inl (ca 2, 20, .inl f4)), (q6, .inl (ca 5, 2, .inr (.inr (.inr (.inr f12))))), (q7, .inr (13, rg 81 x8_0)), (q10, .inr (13, rg 81 x11_0)), (q14, .inr (13, rg 81 x15_0)), (q17, .inl (ca 0, 3001, .inl f17)), (q19, .inl (ca 0, 3001, .inl f19)), (q140, .inl (ca 0, 8, .inl f140))] := hD145
  clear hP144 hD143 hS144 hF143 hM143 hm145
  refine lv_aload_n hx hb d_15_11_632 rfl (lv_at hl 0 rfl) ?_
  refine lv_sipush (v := 400) hx hb d_15_11_633 (by decide) ?_
  refine gnewaX (atype := .int) hx hb hts k_1_57 hP145 hS145 (by decide) (N' := 400) (by decide) (Nat.le_of_ble_eq_true rfl) (Nat.le_of_ble_eq_true rfl) (Nat.le_of_ble_eq_true rfl) d_15_11_636 (fun q146 H146 hP146 hS146 => ?_)
  clear hP145 hS145
  refine W.widen (k := 229) (n := 651194) (Nat.le_of_ble_eq_true rfl) (Nat.le_of_ble_eq_true rfl) ?_
  refine gputFX hx hb hts inW_14 tyX14 tyX14_ok nmX14 hown hK hP146 hD145 hS146 0 rfl rfl hF145 77 (by decide) k_11_75 rfl hnm rfl rfl rfl d_15_11_638 (L' := [(74, .ref q140), (8, .ref q19), (7, .ref q17), (6, .ref q14), (5, .ref q6), (4, .ref q4), (2, .ref q2)]) rfl (fun f147 H147 locs147 hF147 hm147 hP147 hD147 hS147 => ?_)
  have hM147 := gM.tr hM145 hm147
  have hP147 : va_P D cls [(a0, .inr (14, rg 107 f147)), (q2, .inl (ca 2, 3000, .inl f2)), (q4, .inl (ca 2, 20, .inl f4)), (q6, .inl (ca 5, 2, .inr (.inr (.inr (.inr f12))))), (q7, .inr (13, rg 81 x8_0)), (q10, .inr (13, rg 81 x11_0)), (q14, .inr (13, rg 81 x15_0)), (q17, .inl (ca 0, 3001, .inl f17)), (q19, .inl (ca 0, 3001, .inl f19)), (q140, .inl (ca 0, 8, .inl f140))] H147 := hP147
  have hD147 : va_D A [(a0, .inr (14, rg 107 f147)), (q2, .inl (ca 2, 3000, .inl f2)), (q4, .inl (ca 2, 20, .inl f4)), (q6, .inl (ca 5, 2, .inr (.inr (.inr (.inr f12))))), (q7, .inr (13, rg 81 x8_0)), (q10, .inr (13, rg 81 x11_0)), (q14, .inr (13, rg 81 x15_0)), (q17, .inl (ca 0, 3001, .inl f17)), (q19, .inl (ca 0, 3001, .inl f19)), (q140, .inl (ca 0, 8, .inl f140))] := hD147
  clear hP146 hD145 hS146 hF145 hM145 hm147
  refine lv_aload_n hx hb d_15_11_641 rfl (lv_at hl 0 rfl) ?_
  refine lv_sipush (v := 400) hx hb d_15_11_642 (by decide) ?_
  refine gnewaX (atype := .int) hx hb hts k_1_57 hP147 hS147 (by decide) (N' := 400) (by decide) (Nat.le_of_ble_eq_true rfl) (Nat.le_of_ble_eq_true rfl) (Nat.le_of_ble_eq_true rfl) d_15_11_645 (fun q148 H148 hP148 hS148 => ?_)
  clear hP147 hS147
  refine W.widen (k := 230) (n := 651594) (Nat.le_of_ble_eq_true rfl) (Nat.le_of_ble_eq_true rfl) ?_
  refine gputFX hx hb hts inW_14 tyX14 tyX14_ok nmX14 hown hK hP148 hD147 hS148 0 rfl rfl hF147 78 (by decide) k_11_76 rfl hnm rfl rfl rfl d_15_11_647 (L' := [(74, .ref q140), (8, .ref q19), (7, .ref q17), (6, .ref q14), (5, .ref q6), (4, .ref q4), (2, .ref q2)]) rfl (fun f149 H149 locs149 hF149 hm149 hP149 hD149 hS149 => ?_)
  have hM149 := gM.tr hM147 hm149
  have hP149 : va_P D cls [(a0, .inr (14, rg 107 f149)), (q2, .inl (ca 2, 3000, .inl f2)), (q4, .inl (ca 2, 20, .inl f4)), (q6, .inl (ca 5, 2, .inr (.inr (.inr (.inr f12))))), (q7, .inr (13, rg 81 x8_0)), (q10, .inr (13, rg 81 x11_0)), (q14, .inr (13, rg 81 x15_0)), (q17, .inl (ca 0, 3001, .inl f17)), (q19, .inl (ca 0, 3001, .inl f19)), (q140, .inl (ca 0, 8, .inl f140))] H149 := hP149
  have hD149 : va_D A [(a0, .inr (14, rg 107 f149)), (q2, .inl (ca 2, 3000, .inl f2)), (q4, .inl (ca 2, 20, .inl f4)), (q6, .inl (ca 5, 2, .inr (.inr (.inr (.inr f12))))), (q7, .inr (13, rg 81 x8_0)), (q10, .inr (13, rg 81 x11_0)), (q14, .inr (13, rg 81 x15_0)), (q17, .inl (ca 0, 3001, .inl f17)), (q19, .inl (ca 0, 3001, .inl f19)), (q140, .inl (ca 0, 8, .inl f140))] := hD149
  clear hP148 hD147 hS148 hF147 hM147 hm149
  refine lv_aload_n hx hb d_15_11_650 rfl (lv_at hl 0 rfl) ?_
  refine lv_sipush (v := 400) hx hb d_15_11_651 (by decide) ?_
  refine gnewaX (atype := .long) hx hb hts k_1_105 hP149 hS149 (by decide) (N' := 400) (by decide) (Nat.le_of_ble_eq_true rfl) (Nat.le_of_ble_eq_true rfl) (Nat.le_of_ble_eq_true rfl) d_15_11_654 (fun q150 H150 hP150 hS150 => ?_)
  clear hP149 hS149
  refine W.widen (k := 231) (n := 651994) (Nat.le_of_ble_eq_true rfl) (Nat.le_of_ble_eq_true rfl) ?_
  refine gputFX hx hb hts inW_14 tyX14 tyX14_ok nmX14 hown hK hP150 hD149 hS150 0 rfl rfl hF149 79 (by decide) k_11_77 rfl hnm rfl rfl rfl d_15_11_656 (L' := [(74, .ref q140), (8, .ref q19), (7, .ref q17), (6, .ref q14), (5, .ref q6), (4, .ref q4), (2, .ref q2)]) rfl (fun f151 H151 locs151 hF151 hm151 hP151 hD151 hS151 => ?_)
  have hM151 := gM.tr hM149 hm151
  have hP151 : va_P D cls [(a0, .inr (14, rg 107 f151)), (q2, .inl (ca 2, 3000, .inl f2)), (q4, .inl (ca 2, 20, .inl f4)), (q6, .inl (ca 5, 2, .inr (.inr (.inr (.inr f12))))), (q7, .inr (13, rg 81 x8_0)), (q10, .inr (13, rg 81 x11_0)), (q14, .inr (13, rg 81 x15_0)), (q17, .inl (ca 0, 3001, .inl f17)), (q19, .inl (ca 0, 3001, .inl f19)), (q140, .inl (ca 0, 8, .inl f140))] H151 := hP151
  have hD151 : va_D A [(a0, .inr (14, rg 107 f151)), (q2, .inl (ca 2, 3000, .inl f2)), (q4, .inl (ca 2, 20, .inl f4)), (q6, .inl (ca 5, 2, .inr (.inr (.inr (.inr f12))))), (q7, .inr (13, rg 81 x8_0)), (q10, .inr (13, rg 81 x11_0)), (q14, .inr (13, rg 81 x15_0)), (q17, .inl (ca 0, 3001, .inl f17)), (q19, .inl (ca 0, 3001, .inl f19)), (q140, .inl (ca 0, 8, .inl f140))] := hD151
  clear hP150 hD149 hS150 hF149 hM149 hm151
  refine lv_aload_n hx hb d_15_11_659 rfl (lv_at hl 0 rfl) ?_
  refine lv_sipush (v := 400) hx hb d_15_11_660 (by decide) ?_
  refine gnewaX (atype := .long) hx hb hts k_1_105 hP151 hS151 (by decide) (N' := 400) (by decide) (Nat.le_of_ble_eq_true rfl) (Nat.le_of_ble_eq_true rfl) (Nat.le_of_ble_eq_true rfl) d_15_11_663 (fun q152 H152 hP152 hS152 => ?_)
  clear hP151 hS151
  refine W.widen (k := 232) (n := 652394) (Nat.le_of_ble_eq_true rfl) (Nat.le_of_ble_eq_true rfl) ?_
  refine gputFX hx hb hts inW_14 tyX14 tyX14_ok nmX14 hown hK hP152 hD151 hS152 0 rfl rfl hF151 80 (by decide) k_11_78 rfl hnm rfl rfl rfl d_15_11_665 (L' := [(74, .ref q140), (8, .ref q19), (7, .ref q17), (6, .ref q14), (5, .ref q6), (4, .ref q4), (2, .ref q2)]) rfl (fun f153 H153 locs153 hF153 hm153 hP153 hD153 hS153 => ?_)
  have hM153 := gM.tr hM151 hm153
  have hP153 : va_P D cls [(a0, .inr (14, rg 107 f153)), (q2, .inl (ca 2, 3000, .inl f2)), (q4, .inl (ca 2, 20, .inl f4)), (q6, .inl (ca 5, 2, .inr (.inr (.inr (.inr f12))))), (q7, .inr (13, rg 81 x8_0)), (q10, .inr (13, rg 81 x11_0)), (q14, .inr (13, rg 81 x15_0)), (q17, .inl (ca 0, 3001, .inl f17)), (q19, .inl (ca 0, 3001, .inl f19)), (q140, .inl (ca 0, 8, .inl f140))] H153 := hP153
  have hD153 : va_D A [(a0, .inr (14, rg 107 f153)), (q2, .inl (ca 2, 3000, .inl f2)), (q4, .inl (ca 2, 20, .inl f4)), (q6, .inl (ca 5, 2, .inr (.inr (.inr (.inr f12))))), (q7, .inr (13, rg 81 x8_0)), (q10, .inr (13, rg 81 x11_0)), (q14, .inr (13, rg 81 x15_0)), (q17, .inl (ca 0, 3001, .inl f17)), (q19, .inl (ca 0, 3001, .inl f19)), (q140, .inl (ca 0, 8, .inl f140))] := hD153
  clear hP152 hD151 hS152 hF151 hM151 hm153
  refine lv_aload_n hx hb d_15_11_668 rfl (lv_at hl 0 rfl) ?_
  refine lv_bipush (v := 8) hx hb d_15_11_669 (by decide) ?_
  refine gnewaX (atype := .int) hx hb hts k_1_57 hP153 hS153 (by decide) (N' := 8) (by decide) (Nat.le_of_ble_eq_true rfl) (Nat.le_of_ble_eq_true rfl) (Nat.le_of_ble_eq_true rfl) d_15_11_671 (fun q154 H154 hP154 hS154 => ?_)
  clear hP153 hS153
  refine W.widen (k := 233) (n := 652402) (Nat.le_of_ble_eq_true rfl) (Nat.le_of_ble_eq_true rfl) ?_
  refine gputFX hx hb hts inW_14 tyX14 tyX14_ok nmX14 hown hK hP154 hD153 hS154 0 rfl rfl hF153 81 (by decide) k_11_79 rfl hnm rfl rfl rfl d_15_11_673 (L' := [(74, .ref q140), (8, .ref q19), (7, .ref q17), (6, .ref q14), (5, .ref q6), (4, .ref q4), (2, .ref q2)]) rfl (fun f155 H155 locs155 hF155 hm155 hP155 hD155 hS155 => ?_)
  have hM155 := gM.tr hM153 hm155
  have hP155 : va_P D cls [(a0, .inr (14, rg 107 f155)), (q2, .inl (ca 2, 3000, .inl f2)), (q4, .inl (ca 2, 20, .inl f4)), (q6, .inl (ca 5, 2, .inr (.inr (.inr (.inr f12))))), (q7, .inr (13, rg 81 x8_0)), (q10, .inr (13, rg 81 x11_0)), (q14, .inr (13, rg 81 x15_0)), (q17, .inl (ca 0, 3001, .inl f17)), (q19, .inl (ca 0, 3001, .inl f19)), (q140, .inl (ca 0, 8, .inl f140))] H155 := hP155
  have hD155 : va_D A [(a0, .inr (14, rg 107 f155)), (q2, .inl (ca 2, 3000, .inl f2)), (q4, .inl (ca 2, 20, .inl f4)), (q6, .inl (ca 5, 2, .inr (.inr (.inr (.inr f12))))), (q7, .inr (13, rg 81 x8_0)), (q10, .inr (13, rg 81 x11_0)), (q14, .inr (13, rg 81 x15_0)), (q17, .inl (ca 0, 3001, .inl f17)), (q19, .inl (ca 0, 3001, .inl f19)), (q140, .inl (ca 0, 8, .inl f140))] := hD155
  clear hP154 hD153 hS154 hF153 hM153 hm155
  refine lv_aload_n hx hb d_15_11_676 rfl (lv_at hl 0 rfl) ?_
  refine lv_sipush (v := 400) hx hb d_15_11_677 (by decide) ?_
  refine gnewaX (atype := .int) hx hb hts k_1_57 hP155 hS155 (by decide) (N' := 400) (by decide) (Nat.le_of_ble_eq_true rfl) (Nat.le_of_ble_eq_true rfl) (Nat.le_of_ble_eq_true rfl) d_15_11_680 (fun q156 H156 hP156 hS156 => ?_)
  clear hP155 hS155
  refine W.widen (k := 234) (n := 652802) (Nat.le_of_ble_eq_true rfl) (Nat.le_of_ble_eq_true rfl) ?_
  refine gputFX hx hb hts inW_14 tyX14 tyX14_ok nmX14 hown hK hP156 hD155 hS156 0 rfl rfl hF155 82 (by decide) k_11_80 rfl hnm rfl rfl rfl d_15_11_682 (L' := [(74, .ref q140), (8, .ref q19), (7, .ref q17), (6, .ref q14), (5, .ref q6), (4, .ref q4), (2, .ref q2)]) rfl (fun f157 H157 locs157 hF157 hm157 hP157 hD157 hS157 => ?_)
  have hM157 := gM.tr hM155 hm157
  have hP157 : va_P D cls [(a0, .inr (14, rg 107 f157)), (q2, .inl (ca 2, 3000, .inl f2)), (q4, .inl (ca 2, 20, .inl f4)), (q6, .inl (ca 5, 2, .inr (.inr (.inr (.inr f12))))), (q7, .inr (13, rg 81 x8_0)), (q10, .inr (13, rg 81 x11_0)), (q14, .inr (13, rg 81 x15_0)), (q17, .inl (ca 0, 3001, .inl f17)), (q19, .inl (ca 0, 3001, .inl f19)), (q140, .inl (ca 0, 8, .inl f140))] H157 := hP157
  have hD157 : va_D A [(a0, .inr (14, rg 107 f157)), (q2, .inl (ca 2, 3000, .inl f2)), (q4, .inl (ca 2, 20, .inl f4)), (q6, .inl (ca 5, 2, .inr (.inr (.inr (.inr f12))))), (q7, .inr (13, rg 81 x8_0)), (q10, .inr (13, rg 81 x11_0)), (q14, .inr (13, rg 81 x15_0)), (q17, .inl (ca 0, 3001, .inl f17)), (q19, .inl (ca 0, 3001, .inl f19)), (q140, .inl (ca 0, 8, .inl f140))] := hD157
  clear hP156 hD155 hS156 hF155 hM155 hm157
  refine lv_aload_n hx hb d_15_11_685 rfl (lv_at hl 0 rfl) ?_
  refine lv_sipush (v := 400) hx hb d_15_11_686 (by decide) ?_
  refine gnewaX (atype := .int) hx hb hts k_1_57 hP157 hS157 (by decide) (N' := 400) (by decide) (Nat.le_of_ble_eq_true rfl) (Nat.le_of_ble_eq_true rfl) (Nat.le_of_ble_eq_true rfl) d_15_11_689 (fun q158 H158 hP158 hS158 => ?_)
  clear hP157 hS157
  refine W.widen (k := 235) (n := 653202) (Nat.le_of_ble_eq_true rfl) (Nat.le_of_ble_eq_true rfl) ?_
  refine gputFX hx hb hts inW_14 tyX14 tyX14_ok nmX14 hown hK hP158 hD157 hS158 0 rfl rfl hF157 83 (by decide) k_11_81 rfl hnm rfl rfl rfl d_15_11_691 (L' := [(74, .ref q140), (8, .ref q19), (7, .ref q17), (6, .ref q14), (5, .ref q6), (4, .ref q4), (2, .ref q2)]) rfl (fun f159 H159 locs159 hF159 hm159 hP159 hD159 hS159 => ?_)
  have hM159 := gM.tr hM157 hm159
  have hP159 : va_P D cls [(a0, .inr (14, rg 107 f159)), (q2, .inl (ca 2, 3000, .inl f2)), (q4, .inl (ca 2, 20, .inl f4)), (q6, .inl (ca 5, 2, .inr (.inr (.inr (.inr f12))))), (q7, .inr (13, rg 81 x8_0)), (q10, .inr (13, rg 81 x11_0)), (q14, .inr (13, rg 81 x15_0)), (q17, .inl (ca 0, 3001, .inl f17)), (q19, .inl (ca 0, 3001, .inl f19)), (q140, .inl (ca 0, 8, .inl f140))] H159 := hP159
  have hD159 : va_D A [(a0, .inr (14, rg 107 f159)), (q2, .inl (ca 2, 3000, .inl f2)), (q4, .inl (ca 2, 20, .inl f4)), (q6, .inl (ca 5, 2, .inr (.inr (.inr (.inr f12))))), (q7, .inr (13, rg 81 x8_0)), (q10, .inr (13, rg 81 x11_0)), (q14, .inr (13, rg 81 x15_0)), (q17, .inl (ca 0, 3001, .inl f17)), (q19, .inl (ca 0, 3001, .inl f19)), (q140, .inl (ca 0, 8, .inl f140))] := hD159
  clear hP158 hD157 hS158 hF157 hM157 hm159
  refine lv_aload_n hx hb d_15_11_694 rfl (lv_at hl 0 rfl) ?_
  refine lv_sipush (v := 400) hx hb d_15_11_695 (by decide) ?_
  refine gnewaX (atype := .int) hx hb hts k_1_57 hP159 hS159 (by decide) (N' := 400) (by decide) (Nat.le_of_ble_eq_true rfl) (Nat.le_of_ble_eq_true rfl) (Nat.le_of_ble_eq_true rfl) d_15_11_698 (fun q160 H160 hP160 hS160 => ?_)
  clear hP159 hS159
  refine W.widen (k := 236) (n := 653602) (Nat.le_of_ble_eq_true rfl) (Nat.le_of_ble_eq_true rfl) ?_
  refine gputFX hx hb hts inW_14 tyX14 tyX14_ok nmX14 hown hK hP160 hD159 hS160 0 rfl rfl hF159 84 (by decide) k_11_82 rfl hnm rfl rfl rfl d_15_11_700 (L' := [(74, .ref q140), (8, .ref q19), (7, .ref q17), (6, .ref q14), (5, .ref q6), (4, .ref q4), (2, .ref q2)]) rfl (fun f161 H161 locs161 hF161 hm161 hP161 hD161 hS161 => ?_)
  have hM161 := gM.tr hM159 hm161
  have hP161 : va_P D cls [(a0, .inr (14, rg 107 f161)), (q2, .inl (ca 2, 3000, .inl f2)), (q4, .inl (ca 2, 20, .inl f4)), (q6, .inl (ca 5, 2, .inr (.inr (.inr (.inr f12))))), (q7, .inr (13, rg 81 x8_0)), (q10, .inr (13, rg 81 x11_0)), (q14, .inr (13, rg 81 x15_0)), (q17, .inl (ca 0, 3001, .inl f17)), (q19, .inl (ca 0, 3001, .inl f19)), (q140, .inl (ca 0, 8, .inl f140))] H161 := hP161
  have hD161 : va_D A [(a0, .inr (14, rg 107 f161)), (q2, .inl (ca 2, 3000, .inl f2)), (q4, .inl (ca 2, 20, .inl f4)), (q6, .inl (ca 5, 2, .inr (.inr (.inr (.inr f12))))), (q7, .inr (13, rg 81 x8_0)), (q10, .inr (13, rg 81 x11_0)), (q14, .inr (13, rg 81 x15_0)), (q17, .inl (ca 0, 3001, .inl f17)), (q19, .inl (ca 0, 3001, .inl f19)), (q140, .inl (ca 0, 8, .inl f140))] := hD161
  clear hP160 hD159 hS160 hF159 hM159 hm161
  refine lv_aload_n hx hb d_15_11_703 rfl (lv_at hl 0 rfl) ?_
  refine lv_sipush (v := 400) hx hb d_15_11_704 (by decide) ?_
  refine gnewaX (atype := .int) hx hb hts k_1_57 hP161 hS161 (by decide) (N' := 400) (by decide) (Nat.le_of_ble_eq_true rfl) (Nat.le_of_ble_eq_true rfl) (Nat.le_of_ble_eq_true rfl) d_15_11_707 (fun q162 H162 hP162 hS162 => ?_)
  clear hP161 hS161
  refine W.widen (k := 237) (n := 654002) (Nat.le_of_ble_eq_true rfl) (Nat.le_of_ble_eq_true rfl) ?_
  refine gputFX hx hb hts inW_14 tyX14 tyX14_ok nmX14 hown hK hP162 hD161 hS162 0 rfl rfl hF161 85 (by decide) k_11_83 rfl hnm rfl rfl rfl d_15_11_709 (L' := [(74, .ref q140), (8, .ref q19), (7, .ref q17), (6, .ref q14), (5, .ref q6), (4, .ref q4), (2, .ref q2)]) rfl (fun f163 H163 locs163 hF163 hm163 hP163 hD163 hS163 => ?_)
  have hM163 := gM.tr hM161 hm163
  have hP163 : va_P D cls [(a0, .inr (14, rg 107 f163)), (q2, .inl (ca 2, 3000, .inl f2)), (q4, .inl (ca 2, 20, .inl f4)), (q6, .inl (ca 5, 2, .inr (.inr (.inr (.inr f12))))), (q7, .inr (13, rg 81 x8_0)), (q10, .inr (13, rg 81 x11_0)), (q14, .inr (13, rg 81 x15_0)), (q17, .inl (ca 0, 3001, .inl f17)), (q19, .inl (ca 0, 3001, .inl f19)), (q140, .inl (ca 0, 8, .inl f140))] H163 := hP163
  have hD163 : va_D A [(a0, .inr (14, rg 107 f163)), (q2, .inl (ca 2, 3000, .inl f2)), (q4, .inl (ca 2, 20, .inl f4)), (q6, .inl (ca 5, 2, .inr (.inr (.inr (.inr f12))))), (q7, .inr (13, rg 81 x8_0)), (q10, .inr (13, rg 81 x11_0)), (q14, .inr (13, rg 81 x15_0)), (q17, .inl (ca 0, 3001, .inl f17)), (q19, .inl (ca 0, 3001, .inl f19)), (q140, .inl (ca 0, 8, .inl f140))] := hD163
  clear hP162 hD161 hS162 hF161 hM161 hm163
  refine lv_aload_n hx hb d_15_11_712 rfl (lv_at hl 0 rfl) ?_
  refine lv_sipush (v := 400) hx hb d_15_11_713 (by decide) ?_
  refine gnewaX (atype := .long) hx hb hts k_1_105 hP163 hS163 (by decide) (N' := 400) (by decide) (Nat.le_of_ble_eq_true rfl) (Nat.le_of_ble_eq_true rfl) (Nat.le_of_ble_eq_true rfl) d_15_11_716 (fun q164 H164 hP164 hS164 => ?_)
  clear hP163 hS163
  refine W.widen (k := 238) (n := 654402) (Nat.le_of_ble_eq_true rfl) (Nat.le_of_ble_eq_true rfl) ?_
  refine gputFX hx hb hts inW_14 tyX14 tyX14_ok nmX14 hown hK hP164 hD163 hS164 0 rfl rfl hF163 86 (by decide) k_11_84 rfl hnm rfl rfl rfl d_15_11_718 (L' := [(74, .ref q140), (8, .ref q19), (7, .ref q17), (6, .ref q14), (5, .ref q6), (4, .ref q4), (2, .ref q2)]) rfl (fun f165 H165 locs165 hF165 hm165 hP165 hD165 hS165 => ?_)
  have hM165 := gM.tr hM163 hm165
  have hP165 : va_P D cls [(a0, .inr (14, rg 107 f165)), (q2, .inl (ca 2, 3000, .inl f2)), (q4, .inl (ca 2, 20, .inl f4)), (q6, .inl (ca 5, 2, .inr (.inr (.inr (.inr f12))))), (q7, .inr (13, rg 81 x8_0)), (q10, .inr (13, rg 81 x11_0)), (q14, .inr (13, rg 81 x15_0)), (q17, .inl (ca 0, 3001, .inl f17)), (q19, .inl (ca 0, 3001, .inl f19)), (q140, .inl (ca 0, 8, .inl f140))] H165 := hP165
  have hD165 : va_D A [(a0, .inr (14, rg 107 f165)), (q2, .inl (ca 2, 3000, .inl f2)), (q4, .inl (ca 2, 20, .inl f4)), (q6, .inl (ca 5, 2, .inr (.inr (.inr (.inr f12))))), (q7, .inr (13, rg 81 x8_0)), (q10, .inr (13, rg 81 x11_0)), (q14, .inr (13, rg 81 x15_0)), (q17, .inl (ca 0, 3001, .inl f17)), (q19, .inl (ca 0, 3001, .inl f19)), (q140, .inl (ca 0, 8, .inl f140))] := hD165
  clear hP164 hD163 hS164 hF163 hM163 hm165
  refine lv_aload_n hx hb d_15_11_721 rfl (lv_at hl 0 rfl) ?_
  refine lv_sipush (v := 400) hx hb d_15_11_722 (by decide) ?_
  refine gnewaX (atype := .long) hx hb hts k_1_105 hP165 hS165 (by decide) (N' := 400) (by decide) (Nat.le_of_ble_eq_true rfl) (Nat.le_of_ble_eq_true rfl) (Nat.le_of_ble_eq_true rfl) d_15_11_725 (fun q166 H166 hP166 hS166 => ?_)
  clear hP165 hS165
  refine W.widen (k := 239) (n := 654802) (Nat.le_of_ble_eq_true rfl) (Nat.le_of_ble_eq_true rfl) ?_
  refine gputFX hx hb hts inW_14 tyX14 tyX14_ok nmX14 hown hK hP166 hD165 hS166 0 rfl rfl hF165 87 (by decide) k_11_85 rfl hnm rfl rfl rfl d_15_11_727 (L' := [(74, .ref q140), (8, .ref q19), (7, .ref q17), (6, .ref q14), (5, .ref q6), (4, .ref q4), (2, .ref q2)]) rfl (fun f167 H167 locs167 hF167 hm167 hP167 hD167 hS167 => ?_)
  have hM167 := gM.tr hM165 hm167
  have hP167 : va_P D cls [(a0, .inr (14, rg 107 f167)), (q2, .inl (ca 2, 3000, .inl f2)), (q4, .inl (ca 2, 20, .inl f4)), (q6, .inl (ca 5, 2, .inr (.inr (.inr (.inr f12))))), (q7, .inr (13, rg 81 x8_0)), (q10, .inr (13, rg 81 x11_0)), (q14, .inr (13, rg 81 x15_0)), (q17, .inl (ca 0, 3001, .inl f17)), (q19, .inl (ca 0, 3001, .inl f19)), (q140, .inl (ca 0, 8, .inl f140))] H167 := hP167
  have hD167 : va_D A [(a0, .inr (14, rg 107 f167)), (q2, .inl (ca 2, 3000, .inl f2)), (q4, .inl (ca 2, 20, .inl f4)), (q6, .inl (ca 5, 2, .inr (.inr (.inr (.inr f12))))), (q7, .inr (13, rg 81 x8_0)), (q10, .inr (13, rg 81 x11_0)), (q14, .inr (13, rg 81 x15_0)), (q17, .inl (ca 0, 3001, .inl f17)), (q19, .inl (ca 0, 3001, .inl f19)), (q140, .inl (ca 0, 8, .inl f140))] := hD167
  clear hP166 hD165 hS166 hF165 hM165 hm167
  refine lv_aload_n hx hb d_15_11_730 rfl (lv_at hl 0 rfl) ?_
  refine lv_bipush (v := 8) hx hb d_15_11_731 (by decide) ?_
  refine gnewaX (atype := .int) hx hb hts k_1_57 hP167 hS167 (by decide) (N' := 8) (by decide) (Nat.le_of_ble_eq_true rfl) (Nat.le_of_ble_eq_true rfl) (Nat.le_of_ble_eq_true rfl) d_15_11_733 (fun q168 H168 hP168 hS168 => ?_)
  clear hP167 hS167
  refine W.widen (k := 240) (n := 654810) (Nat.le_of_ble_eq_true rfl) (Nat.le_of_ble_eq_true rfl) ?_
  refine gputFX hx hb hts inW_14 tyX14 tyX14_ok nmX14 hown hK hP168 hD167 hS168 0 rfl rfl hF167 88 (by decide) k_11_86 rfl hnm rfl rfl rfl d_15_11_735 (L' := [(74, .ref q140), (8, .ref q19), (7, .ref q17), (6, .ref q14), (5, .ref q6), (4, .ref q4), (2, .ref q2)]) rfl (fun f169 H169 locs169 hF169 hm169 hP169 hD169 hS169 => ?_)
  have hM169 := gM.tr hM167 hm169
  have hP169 : va_P D cls [(a0, .inr (14, rg 107 f169)), (q2, .inl (ca 2, 3000, .inl f2)), (q4, .inl (ca 2, 20, .inl f4)), (q6, .inl (ca 5, 2, .inr (.inr (.inr (.inr f12))))), (q7, .inr (13, rg 81 x8_0)), (q10, .inr (13, rg 81 x11_0)), (q14, .inr (13, rg 81 x15_0)), (q17, .inl (ca 0, 3001, .inl f17)), (q19, .inl (ca 0, 3001, .inl f19)), (q140, .inl (ca 0, 8, .inl f140))] H169 := hP169
  have hD169 : va_D A [(a0, .inr (14, rg 107 f169)), (q2, .inl (ca 2, 3000, .inl f2)), (q4, .inl (ca 2, 20, .inl f4)), (q6, .inl (ca 5, 2, .inr (.inr (.inr (.inr f12))))), (q7, .inr (13, rg 81 x8_0)), (q10, .inr (13, rg 81 x11_0)), (q14, .inr (13, rg 81 x15_0)), (q17, .inl (ca 0, 3001, .inl f17)), (q19, .inl (ca 0, 3001, .inl f19)), (q140, .inl (ca 0, 8, .inl f140))] := hD169
  clear hP168 hD167 hS168 hF167 hM167 hm169
  refine lv_aload_n hx hb d_15_11_738 rfl (lv_at hl 0 rfl) ?_
  refine lv_bipush (v := 6) hx hb d_15_11_739 (by decide) ?_
  refine gnewaX (atype := .int) hx hb hts k_1_57 hP169 hS169 (by decide) (N' := 6) (by decide) (Nat.le_of_ble_eq_true rfl) (Nat.le_of_ble_eq_true rfl) (Nat.le_of_ble_eq_true rfl) d_15_11_741 (fun q170 H170 hP170 hS170 => ?_)
  clear hP169 hS169
  refine W.widen (k := 241) (n := 654816) (Nat.le_of_ble_eq_true rfl) (Nat.le_of_ble_eq_true rfl) ?_
  refine gputFX hx hb hts inW_14 tyX14 tyX14_ok nmX14 hown hK hP170 hD169 hS170 0 rfl rfl hF169 95 (by decide) k_11_93 rfl hnm rfl rfl rfl d_15_11_743 (L' := [(74, .ref q140), (8, .ref q19), (7, .ref q17), (6, .ref q14), (5, .ref q6), (4, .ref q4), (2, .ref q2)]) rfl (fun f171 H171 locs171 hF171 hm171 hP171 hD171 hS171 => ?_)
  have hM171 := gM.tr hM169 hm171
  have hP171 : va_P D cls [(a0, .inr (14, rg 107 f171)), (q2, .inl (ca 2, 3000, .inl f2)), (q4, .inl (ca 2, 20, .inl f4)), (q6, .inl (ca 5, 2, .inr (.inr (.inr (.inr f12))))), (q7, .inr (13, rg 81 x8_0)), (q10, .inr (13, rg 81 x11_0)), (q14, .inr (13, rg 81 x15_0)), (q17, .inl (ca 0, 3001, .inl f17)), (q19, .inl (ca 0, 3001, .inl f19)), (q140, .inl (ca 0, 8, .inl f140))] H171 := hP171
  have hD171 : va_D A [(a0, .inr (14, rg 107 f171)), (q2, .inl (ca 2, 3000, .inl f2)), (q4, .inl (ca 2, 20, .inl f4)), (q6, .inl (ca 5, 2, .inr (.inr (.inr (.inr f12))))), (q7, .inr (13, rg 81 x8_0)), (q10, .inr (13, rg 81 x11_0)), (q14, .inr (13, rg 81 x15_0)), (q17, .inl (ca 0, 3001, .inl f17)), (q19, .inl (ca 0, 3001, .inl f19)), (q140, .inl (ca 0, 8, .inl f140))] := hD171
  clear hP170 hD169 hS170 hF169 hM169 hm171
  refine lv_aload_n hx hb d_15_11_746 rfl (lv_at hl 0 rfl) ?_
  refine lv_bipush (v := 89) hx hb d_15_11_747 (by decide) ?_
  refine gnewa (atype := .int) hx hb hts (ty := .int) rfl k_1_57 hK 0 rfl (fun _ _ => gu_int) hP171 hD171 hS171 hA (a0 := (89, .inl (fun _ => 0))) (fun _ => rfl) (by decide) (N' := 89) (by decide) (Nat.le_of_ble_eq_true rfl) (Nat.le_of_ble_eq_true rfl) (Nat.le_of_ble_eq_true rfl) d_15_11_749 (fun q172 H172 hP172 hD172 hS172 => ?_)
  obtain ⟨f172, hF172, hP172, hD172⟩ : ∃ f : Nat → Int32, gF f [] ∧ va_P D cls ([(a0, .inr (14, rg 107 f171)), (q2, .inl (ca 2, 3000, .inl f2)), (q4, .inl (ca 2, 20, .inl f4)), (q6, .inl (ca 5, 2, .inr (.inr (.inr (.inr f12))))), (q7, .inr (13, rg 81 x8_0)), (q10, .inr (13, rg 81 x11_0)), (q14, .inr (13, rg 81 x15_0)), (q17, .inl (ca 0, 3001, .inl f17)), (q19, .inl (ca 0, 3001, .inl f19)), (q140, .inl (ca 0, 8, .inl f140))] ++ [(q172, .inl (ca 0, 89, .inl f))]) H172 ∧ va_D A ([(a0, .inr (14, rg 107 f171)), (q2, .inl (ca 2, 3000, .inl f2)), (q4, .inl (ca 2, 20, .inl f4)), (q6, .inl (ca 5, 2, .inr (.inr (.inr (.inr f12))))), (q7, .inr (13, rg 81 x8_0)), (q10, .inr (13, rg 81 x11_0)), (q14, .inr (13, rg 81 x15_0)), (q17, .inl (ca 0, 3001, .inl f17)), (q19, .inl (ca 0, 3001, .inl f19)), (q140, .inl (ca 0, 8, .inl f140))] ++ [(q172, .inl (ca 0, 89, .inl f))]) := ⟨_, gF_nil, hP172, hD172⟩
  have hP172 : va_P D cls [(a0, .inr (14, rg 107 f171)), (q2, .inl (ca 2, 3000, .inl f2)), (q4, .inl (ca 2, 20, .inl f4)), (q6, .inl (ca 5, 2, .inr (.inr (.inr (.inr f12))))), (q7, .inr (13, rg 81 x8_0)), (q10, .inr (13, rg 81 x11_0)), (q14, .inr (13, rg 81 x15_0)), (q17, .inl (ca 0, 3001, .inl f17)), (q19, .inl (ca 0, 3001, .inl f19)), (q140, .inl (ca 0, 8, .inl f140)), (q172, .inl (ca 0, 89, .inl f172))] H172 := hP172
  have hD172 : va_D A [(a0, .inr (14, rg 107 f171)), (q2, .inl (ca 2, 3000, .inl f2)), (q4, .inl (ca 2, 20, .inl f4)), (q6, .inl (ca 5, 2, .inr (.inr (.inr (.inr f12))))), (q7, .inr (13, rg 81 x8_0)), (q10, .inr (13, rg 81 x11_0)), (q14, .inr (13, rg 81 x15_0)), (q17, .inl (ca 0, 3001, .inl f17)), (q19, .inl (ca 0, 3001, .inl f19)), (q140, .inl (ca 0, 8, .inl f140)), (q172, .inl (ca 0, 89, .inl f172))] := hD172
  refine W.widen (k := 242) (n := 654905) (Nat.le_of_ble_eq_true rfl) (Nat.le_of_ble_eq_true rfl) ?_
  refine lv_dup hx hb d_15_11_751 rfl ?_
  refine lv_iconst (v := 0) hx hb d_15_11_752 (by decide) ?_
  refine lv_bipush (v := 7) hx hb d_15_11_753 (by decide) ?_
  refine gast hx hb hK hP172 hD172 hS172 10 0 rfl rfl hF172 (k := 0) (by decide) (vinC (by decide)) d_15_11_755 (L' := [(0, 7)]) rfl (fun f173 H173 locs173 hF173 hP173 hD173 hS173 => ?_)
  have hP173 : va_P D cls [(a0, .inr (14, rg 107 f171)), (q2, .inl (ca 2, 3000, .inl f2)), (q4, .inl (ca 2, 20, .inl f4)), (q6, .inl (ca 5, 2, .inr (.inr (.inr (.inr f12))))), (q7, .inr (13, rg 81 x8_0)), (q10, .inr (13, rg 81 x11_0)), (q14, .inr (13, rg 81 x15_0)), (q17, .inl (ca 0, 3001, .inl f17)), (q19, .inl (ca 0, 3001, .inl f19)), (q140, .inl (ca 0, 8, .inl f140)), (q172, .inl (ca 0, 89, .inl f173))] H173 := hP173
  have hD173 : va_D A [(a0, .inr (14, rg 107 f171)), (q2, .inl (ca 2, 3000, .inl f2)), (q4, .inl (ca 2, 20, .inl f4)), (q6, .inl (ca 5, 2, .inr (.inr (.inr (.inr f12))))), (q7, .inr (13, rg 81 x8_0)), (q10, .inr (13, rg 81 x11_0)), (q14, .inr (13, rg 81 x15_0)), (q17, .inl (ca 0, 3001, .inl f17)), (q19, .inl (ca 0, 3001, .inl f19)), (q140, .inl (ca 0, 8, .inl f140)), (q172, .inl (ca 0, 89, .inl f173))] := hD173
  clear hP172 hD172 hS172 hF172
  refine lv_dup hx hb d_15_11_756 rfl ?_
  refine lv_iconst (v := 1) hx hb d_15_11_757 (by decide) ?_
  refine lv_bipush (v := 8) hx hb d_15_11_758 (by decide) ?_
  refine gast hx hb hK hP173 hD173 hS173 10 0 rfl rfl hF173 (k := 1) (by decide) (vinC (by decide)) d_15_11_760 (L' := [(1, 8), (0, 7)]) rfl (fun f174 H174 locs174 hF174 hP174 hD174 hS174 => ?_)
  have hP174 : va_P D cls [(a0, .inr (14, rg 107 f171)), (q2, .inl (ca 2, 3000, .inl f2)), (q4, .inl (ca 2, 20, .inl f4)), (q6, .inl (ca 5, 2, .inr (.inr (.inr (.inr f12))))), (q7, .inr (13, rg 81 x8_0)), (q10, .inr (13, rg 81 x11_0)), (q14, .inr (13, rg 81 x15_0)), (q17, .inl (ca 0, 3001, .inl f17)), (q19, .inl (ca 0, 3001, .inl f19)), (q140, .inl (ca 0, 8, .inl f140)), (q172, .inl (ca 0, 89, .inl f174))] H174 := hP174
  have hD174 : va_D A [(a0, .inr (14, rg 107 f171)), (q2, .inl (ca 2, 3000, .inl f2)), (q4, .inl (ca 2, 20, .inl f4)), (q6, .inl (ca 5, 2, .inr (.inr (.inr (.inr f12))))), (q7, .inr (13, rg 81 x8_0)), (q10, .inr (13, rg 81 x11_0)), (q14, .inr (13, rg 81 x15_0)), (q17, .inl (ca 0, 3001, .inl f17)), (q19, .inl (ca 0, 3001, .inl f19)), (q140, .inl (ca 0, 8, .inl f140)), (q172, .inl (ca 0, 89, .inl f174))] := hD174
  clear hP173 hD173 hS173 hF173
  refine lv_dup hx hb d_15_11_761 rfl ?_
  refine lv_iconst (v := 2) hx hb d_15_11_762 (by decide) ?_
  refine lv_bipush (v := 9) hx hb d_15_11_763 (by decide) ?_
  refine gast hx hb hK hP174 hD174 hS174 10 0 rfl rfl hF174 (k := 2) (by decide) (vinC (by decide)) d_15_11_765 (L' := [(2, 9), (1, 8), (0, 7)]) rfl (fun f175 H175 locs175 hF175 hP175 hD175 hS175 => ?_)
  have hP175 : va_P D cls [(a0, .inr (14, rg 107 f171)), (q2, .inl (ca 2, 3000, .inl f2)), (q4, .inl (ca 2, 20, .inl f4)), (q6, .inl (ca 5, 2, .inr (.inr (.inr (.inr f12))))), (q7, .inr (13, rg 81 x8_0)), (q10, .inr (13, rg 81 x11_0)), (q14, .inr (13, rg 81 x15_0)), (q17, .inl (ca 0, 3001, .inl f17)), (q19, .inl (ca 0, 3001, .inl f19)), (q140, .inl (ca 0, 8, .inl f140)), (q172, .inl (ca 0, 89, .inl f175))] H175 := hP175
  have hD175 : va_D A [(a0, .inr (14, rg 107 f171)), (q2, .inl (ca 2, 3000, .inl f2)), (q4, .inl (ca 2, 20, .inl f4)), (q6, .inl (ca 5, 2, .inr (.inr (.inr (.inr f12))))), (q7, .inr (13, rg 81 x8_0)), (q10, .inr (13, rg 81 x11_0)), (q14, .inr (13, rg 81 x15_0)), (q17, .inl (ca 0, 3001, .inl f17)), (q19, .inl (ca 0, 3001, .inl f19)), (q140, .inl (ca 0, 8, .inl f140)), (q172, .inl (ca 0, 89, .inl f175))] := hD175
  clear hP174 hD174 hS174 hF174
  refine lv_dup hx hb d_15_11_766 rfl ?_
  refine lv_iconst (v := 3) hx hb d_15_11_767 (by decide) ?_
  refine lv_bipush (v := 10) hx hb d_15_11_768 (by decide) ?_
  refine gast hx hb hK hP175 hD175 hS175 10 0 rfl rfl hF175 (k := 3) (by decide) (vinC (by decide)) d_15_11_770 (L' := [(3, 10), (2, 9), (1, 8), (0, 7)]) rfl (fun f176 H176 locs176 hF176 hP176 hD176 hS176 => ?_)
  have hP176 : va_P D cls [(a0, .inr (14, rg 107 f171)), (q2, .inl (ca 2, 3000, .inl f2)), (q4, .inl (ca 2, 20, .inl f4)), (q6, .inl (ca 5, 2, .inr (.inr (.inr (.inr f12))))), (q7, .inr (13, rg 81 x8_0)), (q10, .inr (13, rg 81 x11_0)), (q14, .inr (13, rg 81 x15_0)), (q17, .inl (ca 0, 3001, .inl f17)), (q19, .inl (ca 0, 3001, .inl f19)), (q140, .inl (ca 0, 8, .inl f140)), (q172, .inl (ca 0, 89, .inl f176))] H176 := hP176
  have hD176 : va_D A [(a0, .inr (14, rg 107 f171)), (q2, .inl (ca 2, 3000, .inl f2)), (q4, .inl (ca 2, 20, .inl f4)), (q6, .inl (ca 5, 2, .inr (.inr (.inr (.inr f12))))), (q7, .inr (13, rg 81 x8_0)), (q10, .inr (13, rg 81 x11_0)), (q14, .inr (13, rg 81 x15_0)), (q17, .inl (ca 0, 3001, .inl f17)), (q19, .inl (ca 0, 3001, .inl f19)), (q140, .inl (ca 0, 8, .inl f140)), (q172, .inl (ca 0, 89, .inl f176))] := hD176
  clear hP175 hD175 hS175 hF175
  refine lv_dup hx hb d_15_11_771 rfl ?_
  refine lv_iconst (v := 4) hx hb d_15_11_772 (by decide) ?_
  refine lv_bipush (v := 11) hx hb d_15_11_773 (by decide) ?_
  refine gast hx hb hK hP176 hD176 hS176 10 0 rfl rfl hF176 (k := 4) (by decide) (vinC (by decide)) d_15_11_775 (L' := [(4, 11), (3, 10), (2, 9), (1, 8), (0, 7)]) rfl (fun f177 H177 locs177 hF177 hP177 hD177 hS177 => ?_)
  have hP177 : va_P D cls [(a0, .inr (14, rg 107 f171)), (q2, .inl (ca 2, 3000, .inl f2)), (q4, .inl (ca 2, 20, .inl f4)), (q6, .inl (ca 5, 2, .inr (.inr (.inr (.inr f12))))), (q7, .inr (13, rg 81 x8_0)), (q10, .inr (13, rg 81 x11_0)), (q14, .inr (13, rg 81 x15_0)), (q17, .inl (ca 0, 3001, .inl f17)), (q19, .inl (ca 0, 3001, .inl f19)), (q140, .inl (ca 0, 8, .inl f140)), (q172, .inl (ca 0, 89, .inl f177))] H177 := hP177
  have hD177 : va_D A [(a0, .inr (14, rg 107 f171)), (q2, .inl (ca 2, 3000, .inl f2)), (q4, .inl (ca 2, 20, .inl f4)), (q6, .inl (ca 5, 2, .inr (.inr (.inr (.inr f12))))), (q7, .inr (13, rg 81 x8_0)), (q10, .inr (13, rg 81 x11_0)), (q14, .inr (13, rg 81 x15_0)), (q17, .inl (ca 0, 3001, .inl f17)), (q19, .inl (ca 0, 3001, .inl f19)), (q140, .inl (ca 0, 8, .inl f140)), (q172, .inl (ca 0, 89, .inl f177))] := hD177
  clear hP176 hD176 hS176 hF176
  refine lv_dup hx hb d_15_11_776 rfl ?_
  refine lv_iconst (v := 5) hx hb d_15_11_777 (by decide) ?_
  refine lv_bipush (v := 12) hx hb d_15_11_778 (by decide) ?_
  refine gast hx hb hK hP177 hD177 hS177 10 0 rfl rfl hF177 (k := 5) (by decide) (vinC (by decide)) d_15_11_780 (L' := [(5, 12), (4, 11), (3, 10), (2, 9), (1, 8), (0, 7)]) rfl (fun f178 H178 locs178 hF178 hP178 hD178 hS178 => ?_)
  have hP178 : va_P D cls [(a0, .inr (14, rg 107 f171)), (q2, .inl (ca 2, 3000, .inl f2)), (q4, .inl (ca 2, 20, .inl f4)), (q6, .inl (ca 5, 2, .inr (.inr (.inr (.inr f12))))), (q7, .inr (13, rg 81 x8_0)), (q10, .inr (13, rg 81 x11_0)), (q14, .inr (13, rg 81 x15_0)), (q17, .inl (ca 0, 3001, .inl f17)), (q19, .inl (ca 0, 3001, .inl f19)), (q140, .inl (ca 0, 8, .inl f140)), (q172, .inl (ca 0, 89, .inl f178))] H178 := hP178
  have hD178 : va_D A [(a0, .inr (14, rg 107 f171)), (q2, .inl (ca 2, 3000, .inl f2)), (q4, .inl (ca 2, 20, .inl f4)), (q6, .inl (ca 5, 2, .inr (.inr (.inr (.inr f12))))), (q7, .inr (13, rg 81 x8_0)), (q10, .inr (13, rg 81 x11_0)), (q14, .inr (13, rg 81 x15_0)), (q17, .inl (ca 0, 3001, .inl f17)), (q19, .inl (ca 0, 3001, .inl f19)), (q140, .inl (ca 0, 8, .inl f140)), (q172, .inl (ca 0, 89, .inl f178))] := hD178
  clear hP177 hD177 hS177 hF177
  refine lv_dup hx hb d_15_11_781 rfl ?_
  refine lv_bipush (v := 6) hx hb d_15_11_782 (by decide) ?_
  refine lv_bipush (v := 13) hx hb d_15_11_784 (by decide) ?_
  refine gast hx hb hK hP178 hD178 hS178 10 0 rfl rfl hF178 (k := 6) (by decide) (vinC (by decide)) d_15_11_786 (L' := [(6, 13), (5, 12), (4, 11), (3, 10), (2, 9), (1, 8), (0, 7)]) rfl (fun f179 H179 locs179 hF179 hP179 hD179 hS179 => ?_)
  have hP179 : va_P D cls [(a0, .inr (14, rg 107 f171)), (q2, .inl (ca 2, 3000, .inl f2)), (q4, .inl (ca 2, 20, .inl f4)), (q6, .inl (ca 5, 2, .inr (.inr (.inr (.inr f12))))), (q7, .inr (13, rg 81 x8_0)), (q10, .inr (13, rg 81 x11_0)), (q14, .inr (13, rg 81 x15_0)), (q17, .inl (ca 0, 3001, .inl f17)), (q19, .inl (ca 0, 3001, .inl f19)), (q140, .inl (ca 0, 8, .inl f140)), (q172, .inl (ca 0, 89, .inl f179))] H179 := hP179
  have hD179 : va_D A [(a0, .inr (14, rg 107 f171)), (q2, .inl (ca 2, 3000, .inl f2)), (q4, .inl (ca 2, 20, .inl f4)), (q6, .inl (ca 5, 2, .inr (.inr (.inr (.inr f12))))), (q7, .inr (13, rg 81 x8_0)), (q10, .inr (13, rg 81 x11_0)), (q14, .inr (13, rg 81 x15_0)), (q17, .inl (ca 0, 3001, .inl f17)), (q19, .inl (ca 0, 3001, .inl f19)), (q140, .inl (ca 0, 8, .inl f140)), (q172, .inl (ca 0, 89, .inl f179))] := hD179
  clear hP178 hD178 hS178 hF178
  refine lv_dup hx hb d_15_11_787 rfl ?_
  refine lv_bipush (v := 7) hx hb d_15_11_788 (by decide) ?_
  refine lv_bipush (v := 14) hx hb d_15_11_790 (by decide) ?_
  refine gast hx hb hK hP179 hD179 hS179 10 0 rfl rfl hF179 (k := 7) (by decide) (vinC (by decide)) d_15_11_792 (L' := [(7, 14), (6, 13), (5, 12), (4, 11), (3, 10), (2, 9), (1, 8), (0, 7)]) rfl (fun f180 H180 locs180 hF180 hP180 hD180 hS180 => ?_)
  have hP180 : va_P D cls [(a0, .inr (14, rg 107 f171)), (q2, .inl (ca 2, 3000, .inl f2)), (q4, .inl (ca 2, 20, .inl f4)), (q6, .inl (ca 5, 2, .inr (.inr (.inr (.inr f12))))), (q7, .inr (13, rg 81 x8_0)), (q10, .inr (13, rg 81 x11_0)), (q14, .inr (13, rg 81 x15_0)), (q17, .inl (ca 0, 3001, .inl f17)), (q19, .inl (ca 0, 3001, .inl f19)), (q140, .inl (ca 0, 8, .inl f140)), (q172, .inl (ca 0, 89, .inl f180))] H180 := hP180
  have hD180 : va_D A [(a0, .inr (14, rg 107 f171)), (q2, .inl (ca 2, 3000, .inl f2)), (q4, .inl (ca 2, 20, .inl f4)), (q6, .inl (ca 5, 2, .inr (.inr (.inr (.inr f12))))), (q7, .inr (13, rg 81 x8_0)), (q10, .inr (13, rg 81 x11_0)), (q14, .inr (13, rg 81 x15_0)), (q17, .inl (ca 0, 3001, .inl f17)), (q19, .inl (ca 0, 3001, .inl f19)), (q140, .inl (ca 0, 8, .inl f140)), (q172, .inl (ca 0, 89, .inl f180))] := hD180
  clear hP179 hD179 hS179 hF179
  refine lv_dup hx hb d_15_11_793 rfl ?_
  refine lv_bipush (v := 8) hx hb d_15_11_794 (by decide) ?_
  refine lv_bipush (v := 16) hx hb d_15_11_796 (by decide) ?_
  refine gast hx hb hK hP180 hD180 hS180 10 0 rfl rfl hF180 (k := 8) (by decide) (vinC (by decide)) d_15_11_798 (L' := [(8, 16), (7, 14), (6, 13), (5, 12), (4, 11), (3, 10), (2, 9), (1, 8), (0, 7)]) rfl (fun f181 H181 locs181 hF181 hP181 hD181 hS181 => ?_)
  have hP181 : va_P D cls [(a0, .inr (14, rg 107 f171)), (q2, .inl (ca 2, 3000, .inl f2)), (q4, .inl (ca 2, 20, .inl f4)), (q6, .inl (ca 5, 2, .inr (.inr (.inr (.inr f12))))), (q7, .inr (13, rg 81 x8_0)), (q10, .inr (13, rg 81 x11_0)), (q14, .inr (13, rg 81 x15_0)), (q17, .inl (ca 0, 3001, .inl f17)), (q19, .inl (ca 0, 3001, .inl f19)), (q140, .inl (ca 0, 8, .inl f140)), (q172, .inl (ca 0, 89, .inl f181))] H181 := hP181
  have hD181 : va_D A [(a0, .inr (14, rg 107 f171)), (q2, .inl (ca 2, 3000, .inl f2)), (q4, .inl (ca 2, 20, .inl f4)), (q6, .inl (ca 5, 2, .inr (.inr (.inr (.inr f12))))), (q7, .inr (13, rg 81 x8_0)), (q10, .inr (13, rg 81 x11_0)), (q14, .inr (13, rg 81 x15_0)), (q17, .inl (ca 0, 3001, .inl f17)), (q19, .inl (ca 0, 3001, .inl f19)), (q140, .inl (ca 0, 8, .inl f140)), (q172, .inl (ca 0, 89, .inl f181))] := hD181
  clear hP180 hD180 hS180 hF180
  refine lv_dup hx hb d_15_11_799 rfl ?_
  refine lv_bipush (v := 9) hx hb d_15_11_800 (by decide) ?_
  refine lv_bipush (v := 17) hx hb d_15_11_802 (by decide) ?_
  refine gast hx hb hK hP181 hD181 hS181 10 0 rfl rfl hF181 (k := 9) (by decide) (vinC (by decide)) d_15_11_804 (L' := [(9, 17), (8, 16), (7, 14), (6, 13), (5, 12), (4, 11), (3, 10), (2, 9), (1, 8), (0, 7)]) rfl (fun f182 H182 locs182 hF182 hP182 hD182 hS182 => ?_)
  have hP182 : va_P D cls [(a0, .inr (14, rg 107 f171)), (q2, .inl (ca 2, 3000, .inl f2)), (q4, .inl (ca 2, 20, .inl f4)), (q6, .inl (ca 5, 2, .inr (.inr (.inr (.inr f12))))), (q7, .inr (13, rg 81 x8_0)), (q10, .inr (13, rg 81 x11_0)), (q14, .inr (13, rg 81 x15_0)), (q17, .inl (ca 0, 3001, .inl f17)), (q19, .inl (ca 0, 3001, .inl f19)), (q140, .inl (ca 0, 8, .inl f140)), (q172, .inl (ca 0, 89, .inl f182))] H182 := hP182
  have hD182 : va_D A [(a0, .inr (14, rg 107 f171)), (q2, .inl (ca 2, 3000, .inl f2)), (q4, .inl (ca 2, 20, .inl f4)), (q6, .inl (ca 5, 2, .inr (.inr (.inr (.inr f12))))), (q7, .inr (13, rg 81 x8_0)), (q10, .inr (13, rg 81 x11_0)), (q14, .inr (13, rg 81 x15_0)), (q17, .inl (ca 0, 3001, .inl f17)), (q19, .inl (ca 0, 3001, .inl f19)), (q140, .inl (ca 0, 8, .inl f140)), (q172, .inl (ca 0, 89, .inl f182))] := hD182
  clear hP181 hD181 hS181 hF181
  refine lv_dup hx hb d_15_11_805 rfl ?_
  refine lv_bipush (v := 10) hx hb d_15_11_806 (by decide) ?_
  refine lv_bipush (v := 19) hx hb d_15_11_808 (by decide) ?_
  refine gast hx hb hK hP182 hD182 hS182 10 0 rfl rfl hF182 (k := 10) (by decide) (vinC (by decide)) d_15_11_810 (L' := [(10, 19), (9, 17), (8, 16), (7, 14), (6, 13), (5, 12), (4, 11), (3, 10), (2, 9), (1, 8), (0, 7)]) rfl (fun f183 H183 locs183 hF183 hP183 hD183 hS183 => ?_)
  have hP183 : va_P D cls [(a0, .inr (14, rg 107 f171)), (q2, .inl (ca 2, 3000, .inl f2)), (q4, .inl (ca 2, 20, .inl f4)), (q6, .inl (ca 5, 2, .inr (.inr (.inr (.inr f12))))), (q7, .inr (13, rg 81 x8_0)), (q10, .inr (13, rg 81 x11_0)), (q14, .inr (13, rg 81 x15_0)), (q17, .inl (ca 0, 3001, .inl f17)), (q19, .inl (ca 0, 3001, .inl f19)), (q140, .inl (ca 0, 8, .inl f140)), (q172, .inl (ca 0, 89, .inl f183))] H183 := hP183
  have hD183 : va_D A [(a0, .inr (14, rg 107 f171)), (q2, .inl (ca 2, 3000, .inl f2)), (q4, .inl (ca 2, 20, .inl f4)), (q6, .inl (ca 5, 2, .inr (.inr (.inr (.inr f12))))), (q7, .inr (13, rg 81 x8_0)), (q10, .inr (13, rg 81 x11_0)), (q14, .inr (13, rg 81 x15_0)), (q17, .inl (ca 0, 3001, .inl f17)), (q19, .inl (ca 0, 3001, .inl f19)), (q140, .inl (ca 0, 8, .inl f140)), (q172, .inl (ca 0, 89, .inl f183))] := hD183
  clear hP182 hD182 hS182 hF182
  refine lv_dup hx hb d_15_11_811 rfl ?_
  refine lv_bipush (v := 11) hx hb d_15_11_812 (by decide) ?_
  refine lv_bipush (v := 21) hx hb d_15_11_814 (by decide) ?_
  refine gast hx hb hK hP183 hD183 hS183 10 0 rfl rfl hF183 (k := 11) (by decide) (vinC (by decide)) d_15_11_816 (L' := [(11, 21), (10, 19), (9, 17), (8, 16), (7, 14), (6, 13), (5, 12), (4, 11), (3, 10), (2, 9), (1, 8), (0, 7)]) rfl (fun f184 H184 locs184 hF184 hP184 hD184 hS184 => ?_)
  have hP184 : va_P D cls [(a0, .inr (14, rg 107 f171)), (q2, .inl (ca 2, 3000, .inl f2)), (q4, .inl (ca 2, 20, .inl f4)), (q6, .inl (ca 5, 2, .inr (.inr (.inr (.inr f12))))), (q7, .inr (13, rg 81 x8_0)), (q10, .inr (13, rg 81 x11_0)), (q14, .inr (13, rg 81 x15_0)), (q17, .inl (ca 0, 3001, .inl f17)), (q19, .inl (ca 0, 3001, .inl f19)), (q140, .inl (ca 0, 8, .inl f140)), (q172, .inl (ca 0, 89, .inl f184))] H184 := hP184
  have hD184 : va_D A [(a0, .inr (14, rg 107 f171)), (q2, .inl (ca 2, 3000, .inl f2)), (q4, .inl (ca 2, 20, .inl f4)), (q6, .inl (ca 5, 2, .inr (.inr (.inr (.inr f12))))), (q7, .inr (13, rg 81 x8_0)), (q10, .inr (13, rg 81 x11_0)), (q14, .inr (13, rg 81 x15_0)), (q17, .inl (ca 0, 3001, .inl f17)), (q19, .inl (ca 0, 3001, .inl f19)), (q140, .inl (ca 0, 8, .inl f140)), (q172, .inl (ca 0, 89, .inl f184))] := hD184
  clear hP183 hD183 hS183 hF183
  refine lv_dup hx hb d_15_11_817 rfl ?_
  refine lv_bipush (v := 12) hx hb d_15_11_818 (by decide) ?_
  refine lv_bipush (v := 23) hx hb d_15_11_820 (by decide) ?_
  refine gast hx hb hK hP184 hD184 hS184 10 0 rfl rfl hF184 (k := 12) (by decide) (vinC (by decide)) d_15_11_822 (L' := [(12, 23), (11, 21), (10, 19), (9, 17), (8, 16), (7, 14), (6, 13), (5, 12), (4, 11), (3, 10), (2, 9), (1, 8), (0, 7)]) rfl (fun f185 H185 locs185 hF185 hP185 hD185 hS185 => ?_)
  have hP185 : va_P D cls [(a0, .inr (14, rg 107 f171)), (q2, .inl (ca 2, 3000, .inl f2)), (q4, .inl (ca 2, 20, .inl f4)), (q6, .inl (ca 5, 2, .inr (.inr (.inr (.inr f12))))), (q7, .inr (13, rg 81 x8_0)), (q10, .inr (13, rg 81 x11_0)), (q14, .inr (13, rg 81 x15_0)), (q17, .inl (ca 0, 3001, .inl f17)), (q19, .inl (ca 0, 3001, .inl f19)), (q140, .inl (ca 0, 8, .inl f140)), (q172, .inl (ca 0, 89, .inl f185))] H185 := hP185
  have hD185 : va_D A [(a0, .inr (14, rg 107 f171)), (q2, .inl (ca 2, 3000, .inl f2)), (q4, .inl (ca 2, 20, .inl f4)), (q6, .inl (ca 5, 2, .inr (.inr (.inr (.inr f12))))), (q7, .inr (13, rg 81 x8_0)), (q10, .inr (13, rg 81 x11_0)), (q14, .inr (13, rg 81 x15_0)), (q17, .inl (ca 0, 3001, .inl f17)), (q19, .inl (ca 0, 3001, .inl f19)), (q140, .inl (ca 0, 8, .inl f140)), (q172, .inl (ca 0, 89, .inl f185))] := hD185
  clear hP184 hD184 hS184 hF184
  refine lv_dup hx hb d_15_11_823 rfl ?_
  refine lv_bipush (v := 13) hx hb d_15_11_824 (by decide) ?_
  refine lv_bipush (v := 25) hx hb d_15_11_826 (by decide) ?_
  refine gast hx hb hK hP185 hD185 hS185 10 0 rfl rfl hF185 (k := 13) (by decide) (vinC (by decide)) d_15_11_828 (L' := [(13, 25), (12, 23), (11, 21), (10, 19), (9, 17), (8, 16), (7, 14), (6, 13), (5, 12), (4, 11), (3, 10), (2, 9), (1, 8), (0, 7)]) rfl (fun f186 H186 locs186 hF186 hP186 hD186 hS186 => ?_)
  have hP186 : va_P D cls [(a0, .inr (14, rg 107 f171)), (q2, .inl (ca 2, 3000, .inl f2)), (q4, .inl (ca 2, 20, .inl f4)), (q6, .inl (ca 5, 2, .inr (.inr (.inr (.inr f12))))), (q7, .inr (13, rg 81 x8_0)), (q10, .inr (13, rg 81 x11_0)), (q14, .inr (13, rg 81 x15_0)), (q17, .inl (ca 0, 3001, .inl f17)), (q19, .inl (ca 0, 3001, .inl f19)), (q140, .inl (ca 0, 8, .inl f140)), (q172, .inl (ca 0, 89, .inl f186))] H186 := hP186
  have hD186 : va_D A [(a0, .inr (14, rg 107 f171)), (q2, .inl (ca 2, 3000, .inl f2)), (q4, .inl (ca 2, 20, .inl f4)), (q6, .inl (ca 5, 2, .inr (.inr (.inr (.inr f12))))), (q7, .inr (13, rg 81 x8_0)), (q10, .inr (13, rg 81 x11_0)), (q14, .inr (13, rg 81 x15_0)), (q17, .inl (ca 0, 3001, .inl f17)), (q19, .inl (ca 0, 3001, .inl f19)), (q140, .inl (ca 0, 8, .inl f140)), (q172, .inl (ca 0, 89, .inl f186))] := hD186
  clear hP185 hD185 hS185 hF185
  refine lv_dup hx hb d_15_11_829 rfl ?_
  refine lv_bipush (v := 14) hx hb d_15_11_830 (by decide) ?_
  refine lv_bipush (v := 28) hx hb d_15_11_832 (by decide) ?_
  refine gast hx hb hK hP186 hD186 hS186 10 0 rfl rfl hF186 (k := 14) (by decide) (vinC (by decide)) d_15_11_834 (L' := [(14, 28), (13, 25), (12, 23), (11, 21), (10, 19), (9, 17), (8, 16), (7, 14), (6, 13), (5, 12), (4, 11), (3, 10), (2, 9), (1, 8), (0, 7)]) rfl (fun f187 H187 locs187 hF187 hP187 hD187 hS187 => ?_)
  have hP187 : va_P D cls [(a0, .inr (14, rg 107 f171)), (q2, .inl (ca 2, 3000, .inl f2)), (q4, .inl (ca 2, 20, .inl f4)), (q6, .inl (ca 5, 2, .inr (.inr (.inr (.inr f12))))), (q7, .inr (13, rg 81 x8_0)), (q10, .inr (13, rg 81 x11_0)), (q14, .inr (13, rg 81 x15_0)), (q17, .inl (ca 0, 3001, .inl f17)), (q19, .inl (ca 0, 3001, .inl f19)), (q140, .inl (ca 0, 8, .inl f140)), (q172, .inl (ca 0, 89, .inl f187))] H187 := hP187
  have hD187 : va_D A [(a0, .inr (14, rg 107 f171)), (q2, .inl (ca 2, 3000, .inl f2)), (q4, .inl (ca 2, 20, .inl f4)), (q6, .inl (ca 5, 2, .inr (.inr (.inr (.inr f12))))), (q7, .inr (13, rg 81 x8_0)), (q10, .inr (13, rg 81 x11_0)), (q14, .inr (13, rg 81 x15_0)), (q17, .inl (ca 0, 3001, .inl f17)), (q19, .inl (ca 0, 3001, .inl f19)), (q140, .inl (ca 0, 8, .inl f140)), (q172, .inl (ca 0, 89, .inl f187))] := hD187
  clear hP186 hD186 hS186 hF186
  refine lv_dup hx hb d_15_11_835 rfl ?_
  refine lv_bipush (v := 15) hx hb d_15_11_836 (by decide) ?_
  refine lv_bipush (v := 31) hx hb d_15_11_838 (by decide) ?_
  refine gast hx hb hK hP187 hD187 hS187 10 0 rfl rfl hF187 (k := 15) (by decide) (vinC (by decide)) d_15_11_840 (L' := [(15, 31), (14, 28), (13, 25), (12, 23), (11, 21), (10, 19), (9, 17), (8, 16), (7, 14), (6, 13), (5, 12), (4, 11), (3, 10), (2, 9), (1, 8), (0, 7)]) rfl (fun f188 H188 locs188 hF188 hP188 hD188 hS188 => ?_)
  have hP188 : va_P D cls [(a0, .inr (14, rg 107 f171)), (q2, .inl (ca 2, 3000, .inl f2)), (q4, .inl (ca 2, 20, .inl f4)), (q6, .inl (ca 5, 2, .inr (.inr (.inr (.inr f12))))), (q7, .inr (13, rg 81 x8_0)), (q10, .inr (13, rg 81 x11_0)), (q14, .inr (13, rg 81 x15_0)), (q17, .inl (ca 0, 3001, .inl f17)), (q19, .inl (ca 0, 3001, .inl f19)), (q140, .inl (ca 0, 8, .inl f140)), (q172, .inl (ca 0, 89, .inl f188))] H188 := hP188
  have hD188 : va_D A [(a0, .inr (14, rg 107 f171)), (q2, .inl (ca 2, 3000, .inl f2)), (q4, .inl (ca 2, 20, .inl f4)), (q6, .inl (ca 5, 2, .inr (.inr (.inr (.inr f12))))), (q7, .inr (13, rg 81 x8_0)), (q10, .inr (13, rg 81 x11_0)), (q14, .inr (13, rg 81 x15_0)), (q17, .inl (ca 0, 3001, .inl f17)), (q19, .inl (ca 0, 3001, .inl f19)), (q140, .inl (ca 0, 8, .inl f140)), (q172, .inl (ca 0, 89, .inl f188))] := hD188
  clear hP187 hD187 hS187 hF187
  refine lv_dup hx hb d_15_11_841 rfl ?_
  refine lv_bipush (v := 16) hx hb d_15_11_842 (by decide) ?_
  refine lv_bipush (v := 34) hx hb d_15_11_844 (by decide) ?_
  refine gast hx hb hK hP188 hD188 hS188 10 0 rfl rfl hF188 (k := 16) (by decide) (vinC (by decide)) d_15_11_846 (L' := [(16, 34), (15, 31), (14, 28), (13, 25), (12, 23), (11, 21), (10, 19), (9, 17), (8, 16), (7, 14), (6, 13), (5, 12), (4, 11), (3, 10), (2, 9), (1, 8), (0, 7)]) rfl (fun f189 H189 locs189 hF189 hP189 hD189 hS189 => ?_)
  have hP189 : va_P D cls [(a0, .inr (14, rg 107 f171)), (q2, .inl (ca 2, 3000, .inl f2)), (q4, .inl (ca 2, 20, .inl f4)), (q6, .inl (ca 5, 2, .inr (.inr (.inr (.inr f12))))), (q7, .inr (13, rg 81 x8_0)), (q10, .inr (13, rg 81 x11_0)), (q14, .inr (13, rg 81 x15_0)), (q17, .inl (ca 0, 3001, .inl f17)), (q19, .inl (ca 0, 3001, .inl f19)), (q140, .inl (ca 0, 8, .inl f140)), (q172, .inl (ca 0, 89, .inl f189))] H189 := hP189
  have hD189 : va_D A [(a0, .inr (14, rg 107 f171)), (q2, .inl (ca 2, 3000, .inl f2)), (q4, .inl (ca 2, 20, .inl f4)), (q6, .inl (ca 5, 2, .inr (.inr (.inr (.inr f12))))), (q7, .inr (13, rg 81 x8_0)), (q10, .inr (13, rg 81 x11_0)), (q14, .inr (13, rg 81 x15_0)), (q17, .inl (ca 0, 3001, .inl f17)), (q19, .inl (ca 0, 3001, .inl f19)), (q140, .inl (ca 0, 8, .inl f140)), (q172, .inl (ca 0, 89, .inl f189))] := hD189
  clear hP188 hD188 hS188 hF188
  refine lv_dup hx hb d_15_11_847 rfl ?_
  refine lv_bipush (v := 17) hx hb d_15_11_848 (by decide) ?_
  refine lv_bipush (v := 37) hx hb d_15_11_850 (by decide) ?_
  refine gast hx hb hK hP189 hD189 hS189 10 0 rfl rfl hF189 (k := 17) (by decide) (vinC (by decide)) d_15_11_852 (L' := [(17, 37), (16, 34), (15, 31), (14, 28), (13, 25), (12, 23), (11, 21), (10, 19), (9, 17), (8, 16), (7, 14), (6, 13), (5, 12), (4, 11), (3, 10), (2, 9), (1, 8), (0, 7)]) rfl (fun f190 H190 locs190 hF190 hP190 hD190 hS190 => ?_)
  have hP190 : va_P D cls [(a0, .inr (14, rg 107 f171)), (q2, .inl (ca 2, 3000, .inl f2)), (q4, .inl (ca 2, 20, .inl f4)), (q6, .inl (ca 5, 2, .inr (.inr (.inr (.inr f12))))), (q7, .inr (13, rg 81 x8_0)), (q10, .inr (13, rg 81 x11_0)), (q14, .inr (13, rg 81 x15_0)), (q17, .inl (ca 0, 3001, .inl f17)), (q19, .inl (ca 0, 3001, .inl f19)), (q140, .inl (ca 0, 8, .inl f140)), (q172, .inl (ca 0, 89, .inl f190))] H190 := hP190
  have hD190 : va_D A [(a0, .inr (14, rg 107 f171)), (q2, .inl (ca 2, 3000, .inl f2)), (q4, .inl (ca 2, 20, .inl f4)), (q6, .inl (ca 5, 2, .inr (.inr (.inr (.inr f12))))), (q7, .inr (13, rg 81 x8_0)), (q10, .inr (13, rg 81 x11_0)), (q14, .inr (13, rg 81 x15_0)), (q17, .inl (ca 0, 3001, .inl f17)), (q19, .inl (ca 0, 3001, .inl f19)), (q140, .inl (ca 0, 8, .inl f140)), (q172, .inl (ca 0, 89, .inl f190))] := hD190
  clear hP189 hD189 hS189 hF189
  refine lv_dup hx hb d_15_11_853 rfl ?_
  refine lv_bipush (v := 18) hx hb d_15_11_854 (by decide) ?_
  refine lv_bipush (v := 41) hx hb d_15_11_856 (by decide) ?_
  refine gast hx hb hK hP190 hD190 hS190 10 0 rfl rfl hF190 (k := 18) (by decide) (vinC (by decide)) d_15_11_858 (L' := [(18, 41), (17, 37), (16, 34), (15, 31), (14, 28), (13, 25), (12, 23), (11, 21), (10, 19), (9, 17), (8, 16), (7, 14), (6, 13), (5, 12), (4, 11), (3, 10), (2, 9), (1, 8), (0, 7)]) rfl (fun f191 H191 locs191 hF191 hP191 hD191 hS191 => ?_)
  have hP191 : va_P D cls [(a0, .inr (14, rg 107 f171)), (q2, .inl (ca 2, 3000, .inl f2)), (q4, .inl (ca 2, 20, .inl f4)), (q6, .inl (ca 5, 2, .inr (.inr (.inr (.inr f12))))), (q7, .inr (13, rg 81 x8_0)), (q10, .inr (13, rg 81 x11_0)), (q14, .inr (13, rg 81 x15_0)), (q17, .inl (ca 0, 3001, .inl f17)), (q19, .inl (ca 0, 3001, .inl f19)), (q140, .inl (ca 0, 8, .inl f140)), (q172, .inl (ca 0, 89, .inl f191))] H191 := hP191
  have hD191 : va_D A [(a0, .inr (14, rg 107 f171)), (q2, .inl (ca 2, 3000, .inl f2)), (q4, .inl (ca 2, 20, .inl f4)), (q6, .inl (ca 5, 2, .inr (.inr (.inr (.inr f12))))), (q7, .inr (13, rg 81 x8_0)), (q10, .inr (13, rg 81 x11_0)), (q14, .inr (13, rg 81 x15_0)), (q17, .inl (ca 0, 3001, .inl f17)), (q19, .inl (ca 0, 3001, .inl f19)), (q140, .inl (ca 0, 8, .inl f140)), (q172, .inl (ca 0, 89, .inl f191))] := hD191
  clear hP190 hD190 hS190 hF190
  refine lv_dup hx hb d_15_11_859 rfl ?_
  refine lv_bipush (v := 19) hx hb d_15_11_860 (by decide) ?_
  refine lv_bipush (v := 45) hx hb d_15_11_862 (by decide) ?_
  refine gast hx hb hK hP191 hD191 hS191 10 0 rfl rfl hF191 (k := 19) (by decide) (vinC (by decide)) d_15_11_864 (L' := [(19, 45), (18, 41), (17, 37), (16, 34), (15, 31), (14, 28), (13, 25), (12, 23), (11, 21), (10, 19), (9, 17), (8, 16), (7, 14), (6, 13), (5, 12), (4, 11), (3, 10), (2, 9), (1, 8), (0, 7)]) rfl (fun f192 H192 locs192 hF192 hP192 hD192 hS192 => ?_)
  have hP192 : va_P D cls [(a0, .inr (14, rg 107 f171)), (q2, .inl (ca 2, 3000, .inl f2)), (q4, .inl (ca 2, 20, .inl f4)), (q6, .inl (ca 5, 2, .inr (.inr (.inr (.inr f12))))), (q7, .inr (13, rg 81 x8_0)), (q10, .inr (13, rg 81 x11_0)), (q14, .inr (13, rg 81 x15_0)), (q17, .inl (ca 0, 3001, .inl f17)), (q19, .inl (ca 0, 3001, .inl f19)), (q140, .inl (ca 0, 8, .inl f140)), (q172, .inl (ca 0, 89, .inl f192))] H192 := hP192
  have hD192 : va_D A [(a0, .inr (14, rg 107 f171)), (q2, .inl (ca 2, 3000, .inl f2)), (q4, .inl (ca 2, 20, .inl f4)), (q6, .inl (ca 5, 2, .inr (.inr (.inr (.inr f12))))), (q7, .inr (13, rg 81 x8_0)), (q10, .inr (13, rg 81 x11_0)), (q14, .inr (13, rg 81 x15_0)), (q17, .inl (ca 0, 3001, .inl f17)), (q19, .inl (ca 0, 3001, .inl f19)), (q140, .inl (ca 0, 8, .inl f140)), (q172, .inl (ca 0, 89, .inl f192))] := hD192
  clear hP191 hD191 hS191 hF191
  refine lv_dup hx hb d_15_11_865 rfl ?_
  refine lv_bipush (v := 20) hx hb d_15_11_866 (by decide) ?_
  refine lv_bipush (v := 50) hx hb d_15_11_868 (by decide) ?_
  refine gast hx hb hK hP192 hD192 hS192 10 0 rfl rfl hF192 (k := 20) (by decide) (vinC (by decide)) d_15_11_870 (L' := [(20, 50), (19, 45), (18, 41), (17, 37), (16, 34), (15, 31), (14, 28), (13, 25), (12, 23), (11, 21), (10, 19), (9, 17), (8, 16), (7, 14), (6, 13), (5, 12), (4, 11), (3, 10), (2, 9), (1, 8), (0, 7)]) rfl (fun f193 H193 locs193 hF193 hP193 hD193 hS193 => ?_)
  have hP193 : va_P D cls [(a0, .inr (14, rg 107 f171)), (q2, .inl (ca 2, 3000, .inl f2)), (q4, .inl (ca 2, 20, .inl f4)), (q6, .inl (ca 5, 2, .inr (.inr (.inr (.inr f12))))), (q7, .inr (13, rg 81 x8_0)), (q10, .inr (13, rg 81 x11_0)), (q14, .inr (13, rg 81 x15_0)), (q17, .inl (ca 0, 3001, .inl f17)), (q19, .inl (ca 0, 3001, .inl f19)), (q140, .inl (ca 0, 8, .inl f140)), (q172, .inl (ca 0, 89, .inl f193))] H193 := hP193
  have hD193 : va_D A [(a0, .inr (14, rg 107 f171)), (q2, .inl (ca 2, 3000, .inl f2)), (q4, .inl (ca 2, 20, .inl f4)), (q6, .inl (ca 5, 2, .inr (.inr (.inr (.inr f12))))), (q7, .inr (13, rg 81 x8_0)), (q10, .inr (13, rg 81 x11_0)), (q14, .inr (13, rg 81 x15_0)), (q17, .inl (ca 0, 3001, .inl f17)), (q19, .inl (ca 0, 3001, .inl f19)), (q140, .inl (ca 0, 8, .inl f140)), (q172, .inl (ca 0, 89, .inl f193))] := hD193
  clear hP192 hD192 hS192 hF192
  refine lv_dup hx hb d_15_11_871 rfl ?_
  refine lv_bipush (v := 21) hx hb d_15_11_872 (by decide) ?_
  refine lv_bipush (v := 55) hx hb d_15_11_874 (by decide) ?_
  refine gast hx hb hK hP193 hD193 hS193 10 0 rfl rfl hF193 (k := 21) (by decide) (vinC (by decide)) d_15_11_876 (L' := [(21, 55), (20, 50), (19, 45), (18, 41), (17, 37), (16, 34), (15, 31), (14, 28), (13, 25), (12, 23), (11, 21), (10, 19), (9, 17), (8, 16), (7, 14), (6, 13), (5, 12), (4, 11), (3, 10), (2, 9), (1, 8), (0, 7)]) rfl (fun f194 H194 locs194 hF194 hP194 hD194 hS194 => ?_)
  have hP194 : va_P D cls [(a0, .inr (14, rg 107 f171)), (q2, .inl (ca 2, 3000, .inl f2)), (q4, .inl (ca 2, 20, .inl f4)), (q6, .inl (ca 5, 2, .inr (.inr (.inr (.inr f12))))), (q7, .inr (13, rg 81 x8_0)), (q10, .inr (13, rg 81 x11_0)), (q14, .inr (13, rg 81 x15_0)), (q17, .inl (ca 0, 3001, .inl f17)), (q19, .inl (ca 0, 3001, .inl f19)), (q140, .inl (ca 0, 8, .inl f140)), (q172, .inl (ca 0, 89, .inl f194))] H194 := hP194
  have hD194 : va_D A [(a0, .inr (14, rg 107 f171)), (q2, .inl (ca 2, 3000, .inl f2)), (q4, .inl (ca 2, 20, .inl f4)), (q6, .inl (ca 5, 2, .inr (.inr (.inr (.inr f12))))), (q7, .inr (13, rg 81 x8_0)), (q10, .inr (13, rg 81 x11_0)), (q14, .inr (13, rg 81 x15_0)), (q17, .inl (ca 0, 3001, .inl f17)), (q19, .inl (ca 0, 3001, .inl f19)), (q140, .inl (ca 0, 8, .inl f140)), (q172, .inl (ca 0, 89, .inl f194))] := hD194
  clear hP193 hD193 hS193 hF193
  refine lv_dup hx hb d_15_11_877 rfl ?_
  refine lv_bipush (v := 22) hx hb d_15_11_878 (by decide) ?_
  refine lv_bipush (v := 60) hx hb d_15_11_880 (by decide) ?_
  refine gast hx hb hK hP194 hD194 hS194 10 0 rfl rfl hF194 (k := 22) (by decide) (vinC (by decide)) d_15_11_882 (L' := [(22, 60), (21, 55), (20, 50), (19, 45), (18, 41), (17, 37), (16, 34), (15, 31), (14, 28), (13, 25), (12, 23), (11, 21), (10, 19), (9, 17), (8, 16), (7, 14), (6, 13), (5, 12), (4, 11), (3, 10), (2, 9), (1, 8), (0, 7)]) rfl (fun f195 H195 locs195 hF195 hP195 hD195 hS195 => ?_)
  have hP195 : va_P D cls [(a0, .inr (14, rg 107 f171)), (q2, .inl (ca 2, 3000, .inl f2)), (q4, .inl (ca 2, 20, .inl f4)), (q6, .inl (ca 5, 2, .inr (.inr (.inr (.inr f12))))), (q7, .inr (13, rg 81 x8_0)), (q10, .inr (13, rg 81 x11_0)), (q14, .inr (13, rg 81 x15_0)), (q17, .inl (ca 0, 3001, .inl f17)), (q19, .inl (ca 0, 3001, .inl f19)), (q140, .inl (ca 0, 8, .inl f140)), (q172, .inl (ca 0, 89, .inl f195))] H195 := hP195
  have hD195 : va_D A [(a0, .inr (14, rg 107 f171)), (q2, .inl (ca 2, 3000, .inl f2)), (q4, .inl (ca 2, 20, .inl f4)), (q6, .inl (ca 5, 2, .inr (.inr (.inr (.inr f12))))), (q7, .inr (13, rg 81 x8_0)), (q10, .inr (13, rg 81 x11_0)), (q14, .inr (13, rg 81 x15_0)), (q17, .inl (ca 0, 3001, .inl f17)), (q19, .inl (ca 0, 3001, .inl f19)), (q140, .inl (ca 0, 8, .inl f140)), (q172, .inl (ca 0, 89, .inl f195))] := hD195
  clear hP194 hD194 hS194 hF194
  refine lv_dup hx hb d_15_11_883 rfl ?_
  refine lv_bipush (v := 23) hx hb d_15_11_884 (by decide) ?_
  refine lv_bipush (v := 66) hx hb d_15_11_886 (by decide) ?_
  refine gast hx hb hK hP195 hD195 hS195 10 0 rfl rfl hF195 (k := 23) (by decide) (vinC (by decide)) d_15_11_888 (L' := [(23, 66), (22, 60), (21, 55), (20, 50), (19, 45), (18, 41), (17, 37), (16, 34), (15, 31), (14, 28), (13, 25), (12, 23), (11, 21), (10, 19), (9, 17), (8, 16), (7, 14), (6, 13), (5, 12), (4, 11), (3, 10), (2, 9), (1, 8), (0, 7)]) rfl (fun f196 H196 locs196 hF196 hP196 hD196 hS196 => ?_)
  have hP196 : va_P D cls [(a0, .inr (14, rg 107 f171)), (q2, .inl (ca 2, 3000, .inl f2)), (q4, .inl (ca 2, 20, .inl f4)), (q6, .inl (ca 5, 2, .inr (.inr (.inr (.inr f12))))), (q7, .inr (13, rg 81 x8_0)), (q10, .inr (13, rg 81 x11_0)), (q14, .inr (13, rg 81 x15_0)), (q17, .inl (ca 0, 3001, .inl f17)), (q19, .inl (ca 0, 3001, .inl f19)), (q140, .inl (ca 0, 8, .inl f140)), (q172, .inl (ca 0, 89, .inl f196))] H196 := hP196
  have hD196 : va_D A [(a0, .inr (14, rg 107 f171)), (q2, .inl (ca 2, 3000, .inl f2)), (q4, .inl (ca 2, 20, .inl f4)), (q6, .inl (ca 5, 2, .inr (.inr (.inr (.inr f12))))), (q7, .inr (13, rg 81 x8_0)), (q10, .inr (13, rg 81 x11_0)), (q14, .inr (13, rg 81 x15_0)), (q17, .inl (ca 0, 3001, .inl f17)), (q19, .inl (ca 0, 3001, .inl f19)), (q140, .inl (ca 0, 8, .inl f140)), (q172, .inl (ca 0, 89, .inl f196))] := hD196
  clear hP195 hD195 hS195 hF195
  refine lv_dup hx hb d_15_11_889 rfl ?_
  refine lv_bipush (v := 24) hx hb d_15_11_890 (by decide) ?_
  refine lv_bipush (v := 73) hx hb d_15_11_892 (by decide) ?_
  refine gast hx hb hK hP196 hD196 hS196 10 0 rfl rfl hF196 (k := 24) (by decide) (vinC (by decide)) d_15_11_894 (L' := [(24, 73), (23, 66), (22, 60), (21, 55), (20, 50), (19, 45), (18, 41), (17, 37), (16, 34), (15, 31), (14, 28), (13, 25), (12, 23), (11, 21), (10, 19), (9, 17), (8, 16), (7, 14), (6, 13), (5, 12), (4, 11), (3, 10), (2, 9), (1, 8), (0, 7)]) rfl (fun f197 H197 locs197 hF197 hP197 hD197 hS197 => ?_)
  have hP197 : va_P D cls [(a0, .inr (14, rg 107 f171)), (q2, .inl (ca 2, 3000, .inl f2)), (q4, .inl (ca 2, 20, .inl f4)), (q6, .inl (ca 5, 2, .inr (.inr (.inr (.inr f12))))), (q7, .inr (13, rg 81 x8_0)), (q10, .inr (13, rg 81 x11_0)), (q14, .inr (13, rg 81 x15_0)), (q17, .inl (ca 0, 3001, .inl f17)), (q19, .inl (ca 0, 3001, .inl f19)), (q140, .inl (ca 0, 8, .inl f140)), (q172, .inl (ca 0, 89, .inl f197))] H197 := hP197
  have hD197 : va_D A [(a0, .inr (14, rg 107 f171)), (q2, .inl (ca 2, 3000, .inl f2)), (q4, .inl (ca 2, 20, .inl f4)), (q6, .inl (ca 5, 2, .inr (.inr (.inr (.inr f12))))), (q7, .inr (13, rg 81 x8_0)), (q10, .inr (13, rg 81 x11_0)), (q14, .inr (13, rg 81 x15_0)), (q17, .inl (ca 0, 3001, .inl f17)), (q19, .inl (ca 0, 3001, .inl f19)), (q140, .inl (ca 0, 8, .inl f140)), (q172, .inl (ca 0, 89, .inl f197))] := hD197
  clear hP196 hD196 hS196 hF196
  refine lv_dup hx hb d_15_11_895 rfl ?_
  refine lv_bipush (v := 25) hx hb d_15_11_896 (by decide) ?_
  refine lv_bipush (v := 80) hx hb d_15_11_898 (by decide) ?_
  refine gast hx hb hK hP197 hD197 hS197 10 0 rfl rfl hF197 (k := 25) (by decide) (vinC (by decide)) d_15_11_900 (L' := [(25, 80), (24, 73), (23, 66), (22, 60), (21, 55), (20, 50), (19, 45), (18, 41), (17, 37), (16, 34), (15, 31), (14, 28), (13, 25), (12, 23), (11, 21), (10, 19), (9, 17), (8, 16), (7, 14), (6, 13), (5, 12), (4, 11), (3, 10), (2, 9), (1, 8), (0, 7)]) rfl (fun f198 H198 locs198 hF198 hP198 hD198 hS198 => ?_)
  have hP198 : va_P D cls [(a0, .inr (14, rg 107 f171)), (q2, .inl (ca 2, 3000, .inl f2)), (q4, .inl (ca 2, 20, .inl f4)), (q6, .inl (ca 5, 2, .inr (.inr (.inr (.inr f12))))), (q7, .inr (13, rg 81 x8_0)), (q10, .inr (13, rg 81 x11_0)), (q14, .inr (13, rg 81 x15_0)), (q17, .inl (ca 0, 3001, .inl f17)), (q19, .inl (ca 0, 3001, .inl f19)), (q140, .inl (ca 0, 8, .inl f140)), (q172, .inl (ca 0, 89, .inl f198))] H198 := hP198
  have hD198 : va_D A [(a0, .inr (14, rg 107 f171)), (q2, .inl (ca 2, 3000, .inl f2)), (q4, .inl (ca 2, 20, .inl f4)), (q6, .inl (ca 5, 2, .inr (.inr (.inr (.inr f12))))), (q7, .inr (13, rg 81 x8_0)), (q10, .inr (13, rg 81 x11_0)), (q14, .inr (13, rg 81 x15_0)), (q17, .inl (ca 0, 3001, .inl f17)), (q19, .inl (ca 0, 3001, .inl f19)), (q140, .inl (ca 0, 8, .inl f140)), (q172, .inl (ca 0, 89, .inl f198))] := hD198
  clear hP197 hD197 hS197 hF197
  refine lv_dup hx hb d_15_11_901 rfl ?_
  refine lv_bipush (v := 26) hx hb d_15_11_902 (by decide) ?_
  refine lv_bipush (v := 88) hx hb d_15_11_904 (by decide) ?_
  refine gast hx hb hK hP198 hD198 hS198 10 0 rfl rfl hF198 (k := 26) (by decide) (vinC (by decide)) d_15_11_906 (L' := [(26, 88), (25, 80), (24, 73), (23, 66), (22, 60), (21, 55), (20, 50), (19, 45), (18, 41), (17, 37), (16, 34), (15, 31), (14, 28), (13, 25), (12, 23), (11, 21), (10, 19), (9, 17), (8, 16), (7, 14), (6, 13), (5, 12), (4, 11), (3, 10), (2, 9), (1, 8), (0, 7)]) rfl (fun f199 H199 locs199 hF199 hP199 hD199 hS199 => ?_)
  have hP199 : va_P D cls [(a0, .inr (14, rg 107 f171)), (q2, .inl (ca 2, 3000, .inl f2)), (q4, .inl (ca 2, 20, .inl f4)), (q6, .inl (ca 5, 2, .inr (.inr (.inr (.inr f12))))), (q7, .inr (13, rg 81 x8_0)), (q10, .inr (13, rg 81 x11_0)), (q14, .inr (13, rg 81 x15_0)), (q17, .inl (ca 0, 3001, .inl f17)), (q19, .inl (ca 0, 3001, .inl f19)), (q140, .inl (ca 0, 8, .inl f140)), (q172, .inl (ca 0, 89, .inl f199))] H199 := hP199
  have hD199 : va_D A [(a0, .inr (14, rg 107 f171)), (q2, .inl (ca 2, 3000, .inl f2)), (q4, .inl (ca 2, 20, .inl f4)), (q6, .inl (ca 5, 2, .inr (.inr (.inr (.inr f12))))), (q7, .inr (13, rg 81 x8_0)), (q10, .inr (13, rg 81 x11_0)), (q14, .inr (13, rg 81 x15_0)), (q17, .inl (ca 0, 3001, .inl f17)), (q19, .inl (ca 0, 3001, .inl f19)), (q140, .inl (ca 0, 8, .inl f140)), (q172, .inl (ca 0, 89, .inl f199))] := hD199
  clear hP198 hD198 hS198 hF198
  refine lv_dup hx hb d_15_11_907 rfl ?_
  refine lv_bipush (v := 27) hx hb d_15_11_908 (by decide) ?_
  refine lv_bipush (v := 97) hx hb d_15_11_910 (by decide) ?_
  refine gast hx hb hK hP199 hD199 hS199 10 0 rfl rfl hF199 (k := 27) (by decide) (vinC (by decide)) d_15_11_912 (L' := [(27, 97), (26, 88), (25, 80), (24, 73), (23, 66), (22, 60), (21, 55), (20, 50), (19, 45), (18, 41), (17, 37), (16, 34), (15, 31), (14, 28), (13, 25), (12, 23), (11, 21), (10, 19), (9, 17), (8, 16), (7, 14), (6, 13), (5, 12), (4, 11), (3, 10), (2, 9), (1, 8), (0, 7)]) rfl (fun f200 H200 locs200 hF200 hP200 hD200 hS200 => ?_)
  have hP200 : va_P D cls [(a0, .inr (14, rg 107 f171)), (q2, .inl (ca 2, 3000, .inl f2)), (q4, .inl (ca 2, 20, .inl f4)), (q6, .inl (ca 5, 2, .inr (.inr (.inr (.inr f12))))), (q7, .inr (13, rg 81 x8_0)), (q10, .inr (13, rg 81 x11_0)), (q14, .inr (13, rg 81 x15_0)), (q17, .inl (ca 0, 3001, .inl f17)), (q19, .inl (ca 0, 3001, .inl f19)), (q140, .inl (ca 0, 8, .inl f140)), (q172, .inl (ca 0, 89, .inl f200))] H200 := hP200
  have hD200 : va_D A [(a0, .inr (14, rg 107 f171)), (q2, .inl (ca 2, 3000, .inl f2)), (q4, .inl (ca 2, 20, .inl f4)), (q6, .inl (ca 5, 2, .inr (.inr (.inr (.inr f12))))), (q7, .inr (13, rg 81 x8_0)), (q10, .inr (13, rg 81 x11_0)), (q14, .inr (13, rg 81 x15_0)), (q17, .inl (ca 0, 3001, .inl f17)), (q19, .inl (ca 0, 3001, .inl f19)), (q140, .inl (ca 0, 8, .inl f140)), (q172, .inl (ca 0, 89, .inl f200))] := hD200
  clear hP199 hD199 hS199 hF199
  refine lv_dup hx hb d_15_11_913 rfl ?_
  refine lv_bipush (v := 28) hx hb d_15_11_914 (by decide) ?_
  refine lv_bipush (v := 107) hx hb d_15_11_916 (by decide) ?_
  refine gast hx hb hK hP200 hD200 hS200 10 0 rfl rfl hF200 (k := 28) (by decide) (vinC (by decide)) d_15_11_918 (L' := [(28, 107), (27, 97), (26, 88), (25, 80), (24, 73), (23, 66), (22, 60), (21, 55), (20, 50), (19, 45), (18, 41), (17, 37), (16, 34), (15, 31), (14, 28), (13, 25), (12, 23), (11, 21), (10, 19), (9, 17), (8, 16), (7, 14), (6, 13), (5, 12), (4, 11), (3, 10), (2, 9), (1, 8), (0, 7)]) rfl (fun f201 H201 locs201 hF201 hP201 hD201 hS201 => ?_)
  have hP201 : va_P D cls [(a0, .inr (14, rg 107 f171)), (q2, .inl (ca 2, 3000, .inl f2)), (q4, .inl (ca 2, 20, .inl f4)), (q6, .inl (ca 5, 2, .inr (.inr (.inr (.inr f12))))), (q7, .inr (13, rg 81 x8_0)), (q10, .inr (13, rg 81 x11_0)), (q14, .inr (13, rg 81 x15_0)), (q17, .inl (ca 0, 3001, .inl f17)), (q19, .inl (ca 0, 3001, .inl f19)), (q140, .inl (ca 0, 8, .inl f140)), (q172, .inl (ca 0, 89, .inl f201))] H201 := hP201
  have hD201 : va_D A [(a0, .inr (14, rg 107 f171)), (q2, .inl (ca 2, 3000, .inl f2)), (q4, .inl (ca 2, 20, .inl f4)), (q6, .inl (ca 5, 2, .inr (.inr (.inr (.inr f12))))), (q7, .inr (13, rg 81 x8_0)), (q10, .inr (13, rg 81 x11_0)), (q14, .inr (13, rg 81 x15_0)), (q17, .inl (ca 0, 3001, .inl f17)), (q19, .inl (ca 0, 3001, .inl f19)), (q140, .inl (ca 0, 8, .inl f140)), (q172, .inl (ca 0, 89, .inl f201))] := hD201
  clear hP200 hD200 hS200 hF200
  refine lv_dup hx hb d_15_11_919 rfl ?_
  refine lv_bipush (v := 29) hx hb d_15_11_920 (by decide) ?_
  refine lv_bipush (v := 118) hx hb d_15_11_922 (by decide) ?_
  refine gast hx hb hK hP201 hD201 hS201 10 0 rfl rfl hF201 (k := 29) (by decide) (vinC (by decide)) d_15_11_924 (L' := [(29, 118), (28, 107), (27, 97), (26, 88), (25, 80), (24, 73), (23, 66), (22, 60), (21, 55), (20, 50), (19, 45), (18, 41), (17, 37), (16, 34), (15, 31), (14, 28), (13, 25), (12, 23), (11, 21), (10, 19), (9, 17), (8, 16), (7, 14), (6, 13), (5, 12), (4, 11), (3, 10), (2, 9), (1, 8), (0, 7)]) rfl (fun f202 H202 locs202 hF202 hP202 hD202 hS202 => ?_)
  have hP202 : va_P D cls [(a0, .inr (14, rg 107 f171)), (q2, .inl (ca 2, 3000, .inl f2)), (q4, .inl (ca 2, 20, .inl f4)), (q6, .inl (ca 5, 2, .inr (.inr (.inr (.inr f12))))), (q7, .inr (13, rg 81 x8_0)), (q10, .inr (13, rg 81 x11_0)), (q14, .inr (13, rg 81 x15_0)), (q17, .inl (ca 0, 3001, .inl f17)), (q19, .inl (ca 0, 3001, .inl f19)), (q140, .inl (ca 0, 8, .inl f140)), (q172, .inl (ca 0, 89, .inl f202))] H202 := hP202
  have hD202 : va_D A [(a0, .inr (14, rg 107 f171)), (q2, .inl (ca 2, 3000, .inl f2)), (q4, .inl (ca 2, 20, .inl f4)), (q6, .inl (ca 5, 2, .inr (.inr (.inr (.inr f12))))), (q7, .inr (13, rg 81 x8_0)), (q10, .inr (13, rg 81 x11_0)), (q14, .inr (13, rg 81 x15_0)), (q17, .inl (ca 0, 3001, .inl f17)), (q19, .inl (ca 0, 3001, .inl f19)), (q140, .inl (ca 0, 8, .inl f140)), (q172, .inl (ca 0, 89, .inl f202))] := hD202
  clear hP201 hD201 hS201 hF201
  refine lv_dup hx hb d_15_11_925 rfl ?_
  refine lv_bipush (v := 30) hx hb d_15_11_926 (by decide) ?_
  refine lv_sipush (v := 130) hx hb d_15_11_928 (by decide) ?_
  refine gast hx hb hK hP202 hD202 hS202 10 0 rfl rfl hF202 (k := 30) (by decide) (vinC (by decide)) d_15_11_931 (L' := [(30, 130), (29, 118), (28, 107), (27, 97), (26, 88), (25, 80), (24, 73), (23, 66), (22, 60), (21, 55), (20, 50), (19, 45), (18, 41), (17, 37), (16, 34), (15, 31), (14, 28), (13, 25), (12, 23), (11, 21), (10, 19), (9, 17), (8, 16), (7, 14), (6, 13), (5, 12), (4, 11), (3, 10), (2, 9), (1, 8), (0, 7)]) rfl (fun f203 H203 locs203 hF203 hP203 hD203 hS203 => ?_)
  have hP203 : va_P D cls [(a0, .inr (14, rg 107 f171)), (q2, .inl (ca 2, 3000, .inl f2)), (q4, .inl (ca 2, 20, .inl f4)), (q6, .inl (ca 5, 2, .inr (.inr (.inr (.inr f12))))), (q7, .inr (13, rg 81 x8_0)), (q10, .inr (13, rg 81 x11_0)), (q14, .inr (13, rg 81 x15_0)), (q17, .inl (ca 0, 3001, .inl f17)), (q19, .inl (ca 0, 3001, .inl f19)), (q140, .inl (ca 0, 8, .inl f140)), (q172, .inl (ca 0, 89, .inl f203))] H203 := hP203
  have hD203 : va_D A [(a0, .inr (14, rg 107 f171)), (q2, .inl (ca 2, 3000, .inl f2)), (q4, .inl (ca 2, 20, .inl f4)), (q6, .inl (ca 5, 2, .inr (.inr (.inr (.inr f12))))), (q7, .inr (13, rg 81 x8_0)), (q10, .inr (13, rg 81 x11_0)), (q14, .inr (13, rg 81 x15_0)), (q17, .inl (ca 0, 3001, .inl f17)), (q19, .inl (ca 0, 3001, .inl f19)), (q140, .inl (ca 0, 8, .inl f140)), (q172, .inl (ca 0, 89, .inl f203))] := hD203
  clear hP202 hD202 hS202 hF202
  refine lv_dup hx hb d_15_11_932 rfl ?_
  refine lv_bipush (v := 31) hx hb d_15_11_933 (by decide) ?_
  refine lv_sipush (v := 143) hx hb d_15_11_935 (by decide) ?_
  refine gast hx hb hK hP203 hD203 hS203 10 0 rfl rfl hF203 (k := 31) (by decide) (vinC (by decide)) d_15_11_938 (L' := [(31, 143), (30, 130), (29, 118), (28, 107), (27, 97), (26, 88), (25, 80), (24, 73), (23, 66), (22, 60), (21, 55), (20, 50), (19, 45), (18, 41), (17, 37), (16, 34), (15, 31), (14, 28), (13, 25), (12, 23), (11, 21), (10, 19), (9, 17), (8, 16), (7, 14), (6, 13), (5, 12), (4, 11), (3, 10), (2, 9), (1, 8), (0, 7)]) rfl (fun f204 H204 locs204 hF204 hP204 hD204 hS204 => ?_)
  have hP204 : va_P D cls [(a0, .inr (14, rg 107 f171)), (q2, .inl (ca 2, 3000, .inl f2)), (q4, .inl (ca 2, 20, .inl f4)), (q6, .inl (ca 5, 2, .inr (.inr (.inr (.inr f12))))), (q7, .inr (13, rg 81 x8_0)), (q10, .inr (13, rg 81 x11_0)), (q14, .inr (13, rg 81 x15_0)), (q17, .inl (ca 0, 3001, .inl f17)), (q19, .inl (ca 0, 3001, .inl f19)), (q140, .inl (ca 0, 8, .inl f140)), (q172, .inl (ca 0, 89, .inl f204))] H204 := hP204
  have hD204 : va_D A [(a0, .inr (14, rg 107 f171)), (q2, .inl (ca 2, 3000, .inl f2)), (q4, .inl (ca 2, 20, .inl f4)), (q6, .inl (ca 5, 2, .inr (.inr (.inr (.inr f12))))), (q7, .inr (13, rg 81 x8_0)), (q10, .inr (13, rg 81 x11_0)), (q14, .inr (13, rg 81 x15_0)), (q17, .inl (ca 0, 3001, .inl f17)), (q19, .inl (ca 0, 3001, .inl f19)), (q140, .inl (ca 0, 8, .inl f140)), (q172, .inl (ca 0, 89, .inl f204))] := hD204
  clear hP203 hD203 hS203 hF203
  refine lv_dup hx hb d_15_11_939 rfl ?_
  refine lv_bipush (v := 32) hx hb d_15_11_940 (by decide) ?_
  refine lv_sipush (v := 157) hx hb d_15_11_942 (by decide) ?_
  refine gast hx hb hK hP204 hD204 hS204 10 0 rfl rfl hF204 (k := 32) (by decide) (vinC (by decide)) d_15_11_945 (L' := [(32, 157), (31, 143), (30, 130), (29, 118), (28, 107), (27, 97), (26, 88), (25, 80), (24, 73), (23, 66), (22, 60), (21, 55), (20, 50), (19, 45), (18, 41), (17, 37), (16, 34), (15, 31), (14, 28), (13, 25), (12, 23), (11, 21), (10, 19), (9, 17), (8, 16), (7, 14), (6, 13), (5, 12), (4, 11), (3, 10), (2, 9), (1, 8), (0, 7)]) rfl (fun f205 H205 locs205 hF205 hP205 hD205 hS205 => ?_)
  have hP205 : va_P D cls [(a0, .inr (14, rg 107 f171)), (q2, .inl (ca 2, 3000, .inl f2)), (q4, .inl (ca 2, 20, .inl f4)), (q6, .inl (ca 5, 2, .inr (.inr (.inr (.inr f12))))), (q7, .inr (13, rg 81 x8_0)), (q10, .inr (13, rg 81 x11_0)), (q14, .inr (13, rg 81 x15_0)), (q17, .inl (ca 0, 3001, .inl f17)), (q19, .inl (ca 0, 3001, .inl f19)), (q140, .inl (ca 0, 8, .inl f140)), (q172, .inl (ca 0, 89, .inl f205))] H205 := hP205
  have hD205 : va_D A [(a0, .inr (14, rg 107 f171)), (q2, .inl (ca 2, 3000, .inl f2)), (q4, .inl (ca 2, 20, .inl f4)), (q6, .inl (ca 5, 2, .inr (.inr (.inr (.inr f12))))), (q7, .inr (13, rg 81 x8_0)), (q10, .inr (13, rg 81 x11_0)), (q14, .inr (13, rg 81 x15_0)), (q17, .inl (ca 0, 3001, .inl f17)), (q19, .inl (ca 0, 3001, .inl f19)), (q140, .inl (ca 0, 8, .inl f140)), (q172, .inl (ca 0, 89, .inl f205))] := hD205
  clear hP204 hD204 hS204 hF204
  refine lv_dup hx hb d_15_11_946 rfl ?_
  refine lv_bipush (v := 33) hx hb d_15_11_947 (by decide) ?_
  refine lv_sipush (v := 173) hx hb d_15_11_949 (by decide) ?_
  refine gast hx hb hK hP205 hD205 hS205 10 0 rfl rfl hF205 (k := 33) (by decide) (vinC (by decide)) d_15_11_952 (L' := [(33, 173), (32, 157), (31, 143), (30, 130), (29, 118), (28, 107), (27, 97), (26, 88), (25, 80), (24, 73), (23, 66), (22, 60), (21, 55), (20, 50), (19, 45), (18, 41), (17, 37), (16, 34), (15, 31), (14, 28), (13, 25), (12, 23), (11, 21), (10, 19), (9, 17), (8, 16), (7, 14), (6, 13), (5, 12), (4, 11), (3, 10), (2, 9), (1, 8), (0, 7)]) rfl (fun f206 H206 locs206 hF206 hP206 hD206 hS206 => ?_)
  have hP206 : va_P D cls [(a0, .inr (14, rg 107 f171)), (q2, .inl (ca 2, 3000, .inl f2)), (q4, .inl (ca 2, 20, .inl f4)), (q6, .inl (ca 5, 2, .inr (.inr (.inr (.inr f12))))), (q7, .inr (13, rg 81 x8_0)), (q10, .inr (13, rg 81 x11_0)), (q14, .inr (13, rg 81 x15_0)), (q17, .inl (ca 0, 3001, .inl f17)), (q19, .inl (ca 0, 3001, .inl f19)), (q140, .inl (ca 0, 8, .inl f140)), (q172, .inl (ca 0, 89, .inl f206))] H206 := hP206
  have hD206 : va_D A [(a0, .inr (14, rg 107 f171)), (q2, .inl (ca 2, 3000, .inl f2)), (q4, .inl (ca 2, 20, .inl f4)), (q6, .inl (ca 5, 2, .inr (.inr (.inr (.inr f12))))), (q7, .inr (13, rg 81 x8_0)), (q10, .inr (13, rg 81 x11_0)), (q14, .inr (13, rg 81 x15_0)), (q17, .inl (ca 0, 3001, .inl f17)), (q19, .inl (ca 0, 3001, .inl f19)), (q140, .inl (ca 0, 8, .inl f140)), (q172, .inl (ca 0, 89, .inl f206))] := hD206
  clear hP205 hD205 hS205 hF205
  refine lv_dup hx hb d_15_11_953 rfl ?_
  refine lv_bipush (v := 34) hx hb d_15_11_954 (by decide) ?_
  refine lv_sipush (v := 190) hx hb d_15_11_956 (by decide) ?_
  refine gast hx hb hK hP206 hD206 hS206 10 0 rfl rfl hF206 (k := 34) (by decide) (vinC (by decide)) d_15_11_959 (L' := [(34, 190), (33, 173), (32, 157), (31, 143), (30, 130), (29, 118), (28, 107), (27, 97), (26, 88), (25, 80), (24, 73), (23, 66), (22, 60), (21, 55), (20, 50), (19, 45), (18, 41), (17, 37), (16, 34), (15, 31), (14, 28), (13, 25), (12, 23), (11, 21), (10, 19), (9, 17), (8, 16), (7, 14), (6, 13), (5, 12), (4, 11), (3, 10), (2, 9), (1, 8), (0, 7)]) rfl (fun f207 H207 locs207 hF207 hP207 hD207 hS207 => ?_)
  have hP207 : va_P D cls [(a0, .inr (14, rg 107 f171)), (q2, .inl (ca 2, 3000, .inl f2)), (q4, .inl (ca 2, 20, .inl f4)), (q6, .inl (ca 5, 2, .inr (.inr (.inr (.inr f12))))), (q7, .inr (13, rg 81 x8_0)), (q10, .inr (13, rg 81 x11_0)), (q14, .inr (13, rg 81 x15_0)), (q17, .inl (ca 0, 3001, .inl f17)), (q19, .inl (ca 0, 3001, .inl f19)), (q140, .inl (ca 0, 8, .inl f140)), (q172, .inl (ca 0, 89, .inl f207))] H207 := hP207
  have hD207 : va_D A [(a0, .inr (14, rg 107 f171)), (q2, .inl (ca 2, 3000, .inl f2)), (q4, .inl (ca 2, 20, .inl f4)), (q6, .inl (ca 5, 2, .inr (.inr (.inr (.inr f12))))), (q7, .inr (13, rg 81 x8_0)), (q10, .inr (13, rg 81 x11_0)), (q14, .inr (13, rg 81 x15_0)), (q17, .inl (ca 0, 3001, .inl f17)), (q19, .inl (ca 0, 3001, .inl f19)), (q140, .inl (ca 0, 8, .inl f140)), (q172, .inl (ca 0, 89, .inl f207))] := hD207
  clear hP206 hD206 hS206 hF206
  refine lv_dup hx hb d_15_11_960 rfl ?_
  refine lv_bipush (v := 35) hx hb d_15_11_961 (by decide) ?_
  refine lv_sipush (v := 209) hx hb d_15_11_963 (by decide) ?_
  refine gast hx hb hK hP207 hD207 hS207 10 0 rfl rfl hF207 (k := 35) (by decide) (vinC (by decide)) d_15_11_966 (L' := [(35, 209), (34, 190), (33, 173), (32, 157), (31, 143), (30, 130), (29, 118), (28, 107), (27, 97), (26, 88), (25, 80), (24, 73), (23, 66), (22, 60), (21, 55), (20, 50), (19, 45), (18, 41), (17, 37), (16, 34), (15, 31), (14, 28), (13, 25), (12, 23), (11, 21), (10, 19), (9, 17), (8, 16), (7, 14), (6, 13), (5, 12), (4, 11), (3, 10), (2, 9), (1, 8), (0, 7)]) rfl (fun f208 H208 locs208 hF208 hP208 hD208 hS208 => ?_)
  have hP208 : va_P D cls [(a0, .inr (14, rg 107 f171)), (q2, .inl (ca 2, 3000, .inl f2)), (q4, .inl (ca 2, 20, .inl f4)), (q6, .inl (ca 5, 2, .inr (.inr (.inr (.inr f12))))), (q7, .inr (13, rg 81 x8_0)), (q10, .inr (13, rg 81 x11_0)), (q14, .inr (13, rg 81 x15_0)), (q17, .inl (ca 0, 3001, .inl f17)), (q19, .inl (ca 0, 3001, .inl f19)), (q140, .inl (ca 0, 8, .inl f140)), (q172, .inl (ca 0, 89, .inl f208))] H208 := hP208
  have hD208 : va_D A [(a0, .inr (14, rg 107 f171)), (q2, .inl (ca 2, 3000, .inl f2)), (q4, .inl (ca 2, 20, .inl f4)), (q6, .inl (ca 5, 2, .inr (.inr (.inr (.inr f12))))), (q7, .inr (13, rg 81 x8_0)), (q10, .inr (13, rg 81 x11_0)), (q14, .inr (13, rg 81 x15_0)), (q17, .inl (ca 0, 3001, .inl f17)), (q19, .inl (ca 0, 3001, .inl f19)), (q140, .inl (ca 0, 8, .inl f140)), (q172, .inl (ca 0, 89, .inl f208))] := hD208
  clear hP207 hD207 hS207 hF207
  refine lv_dup hx hb d_15_11_967 rfl ?_
  refine lv_bipush (v := 36) hx hb d_15_11_968 (by decide) ?_
  refine lv_sipush (v := 230) hx hb d_15_11_970 (by decide) ?_
  refine gast hx hb hK hP208 hD208 hS208 10 0 rfl rfl hF208 (k := 36) (by decide) (vinC (by decide)) d_15_11_973 (L' := [(36, 230), (35, 209), (34, 190), (33, 173), (32, 157), (31, 143), (30, 130), (29, 118), (28, 107), (27, 97), (26, 88), (25, 80), (24, 73), (23, 66), (22, 60), (21, 55), (20, 50), (19, 45), (18, 41), (17, 37), (16, 34), (15, 31), (14, 28), (13, 25), (12, 23), (11, 21), (10, 19), (9, 17), (8, 16), (7, 14), (6, 13), (5, 12), (4, 11), (3, 10), (2, 9), (1, 8), (0, 7)]) rfl (fun f209 H209 locs209 hF209 hP209 hD209 hS209 => ?_)
  have hP209 : va_P D cls [(a0, .inr (14, rg 107 f171)), (q2, .inl (ca 2, 3000, .inl f2)), (q4, .inl (ca 2, 20, .inl f4)), (q6, .inl (ca 5, 2, .inr (.inr (.inr (.inr f12))))), (q7, .inr (13, rg 81 x8_0)), (q10, .inr (13, rg 81 x11_0)), (q14, .inr (13, rg 81 x15_0)), (q17, .inl (ca 0, 3001, .inl f17)), (q19, .inl (ca 0, 3001, .inl f19)), (q140, .inl (ca 0, 8, .inl f140)), (q172, .inl (ca 0, 89, .inl f209))] H209 := hP209
  have hD209 : va_D A [(a0, .inr (14, rg 107 f171)), (q2, .inl (ca 2, 3000, .inl f2)), (q4, .inl (ca 2, 20, .inl f4)), (q6, .inl (ca 5, 2, .inr (.inr (.inr (.inr f12))))), (q7, .inr (13, rg 81 x8_0)), (q10, .inr (13, rg 81 x11_0)), (q14, .inr (13, rg 81 x15_0)), (q17, .inl (ca 0, 3001, .inl f17)), (q19, .inl (ca 0, 3001, .inl f19)), (q140, .inl (ca 0, 8, .inl f140)), (q172, .inl (ca 0, 89, .inl f209))] := hD209
  clear hP208 hD208 hS208 hF208
  refine lv_dup hx hb d_15_11_974 rfl ?_
  refine lv_bipush (v := 37) hx hb d_15_11_975 (by decide) ?_
  refine lv_sipush (v := 253) hx hb d_15_11_977 (by decide) ?_
  refine gast hx hb hK hP209 hD209 hS209 10 0 rfl rfl hF209 (k := 37) (by decide) (vinC (by decide)) d_15_11_980 (L' := [(37, 253), (36, 230), (35, 209), (34, 190), (33, 173), (32, 157), (31, 143), (30, 130), (29, 118), (28, 107), (27, 97), (26, 88), (25, 80), (24, 73), (23, 66), (22, 60), (21, 55), (20, 50), (19, 45), (18, 41), (17, 37), (16, 34), (15, 31), (14, 28), (13, 25), (12, 23), (11, 21), (10, 19), (9, 17), (8, 16), (7, 14), (6, 13), (5, 12), (4, 11), (3, 10), (2, 9), (1, 8), (0, 7)]) rfl (fun f210 H210 locs210 hF210 hP210 hD210 hS210 => ?_)
  have hP210 : va_P D cls [(a0, .inr (14, rg 107 f171)), (q2, .inl (ca 2, 3000, .inl f2)), (q4, .inl (ca 2, 20, .inl f4)), (q6, .inl (ca 5, 2, .inr (.inr (.inr (.inr f12))))), (q7, .inr (13, rg 81 x8_0)), (q10, .inr (13, rg 81 x11_0)), (q14, .inr (13, rg 81 x15_0)), (q17, .inl (ca 0, 3001, .inl f17)), (q19, .inl (ca 0, 3001, .inl f19)), (q140, .inl (ca 0, 8, .inl f140)), (q172, .inl (ca 0, 89, .inl f210))] H210 := hP210
  have hD210 : va_D A [(a0, .inr (14, rg 107 f171)), (q2, .inl (ca 2, 3000, .inl f2)), (q4, .inl (ca 2, 20, .inl f4)), (q6, .inl (ca 5, 2, .inr (.inr (.inr (.inr f12))))), (q7, .inr (13, rg 81 x8_0)), (q10, .inr (13, rg 81 x11_0)), (q14, .inr (13, rg 81 x15_0)), (q17, .inl (ca 0, 3001, .inl f17)), (q19, .inl (ca 0, 3001, .inl f19)), (q140, .inl (ca 0, 8, .inl f140)), (q172, .inl (ca 0, 89, .inl f210))] := hD210
  clear hP209 hD209 hS209 hF209
  refine lv_dup hx hb d_15_11_981 rfl ?_
  refine lv_bipush (v := 38) hx hb d_15_11_982 (by decide) ?_
  refine lv_sipush (v := 279) hx hb d_15_11_984 (by decide) ?_
  refine gast hx hb hK hP210 hD210 hS210 10 0 rfl rfl hF210 (k := 38) (by decide) (vinC (by decide)) d_15_11_987 (L' := [(38, 279), (37, 253), (36, 230), (35, 209), (34, 190), (33, 173), (32, 157), (31, 143), (30, 130), (29, 118), (28, 107), (27, 97), (26, 88), (25, 80), (24, 73), (23, 66), (22, 60), (21, 55), (20, 50), (19, 45), (18, 41), (17, 37), (16, 34), (15, 31), (14, 28), (13, 25), (12, 23), (11, 21), (10, 19), (9, 17), (8, 16), (7, 14), (6, 13), (5, 12), (4, 11), (3, 10), (2, 9), (1, 8), (0, 7)]) rfl (fun f211 H211 locs211 hF211 hP211 hD211 hS211 => ?_)
  have hP211 : va_P D cls [(a0, .inr (14, rg 107 f171)), (q2, .inl (ca 2, 3000, .inl f2)), (q4, .inl (ca 2, 20, .inl f4)), (q6, .inl (ca 5, 2, .inr (.inr (.inr (.inr f12))))), (q7, .inr (13, rg 81 x8_0)), (q10, .inr (13, rg 81 x11_0)), (q14, .inr (13, rg 81 x15_0)), (q17, .inl (ca 0, 3001, .inl f17)), (q19, .inl (ca 0, 3001, .inl f19)), (q140, .inl (ca 0, 8, .inl f140)), (q172, .inl (ca 0, 89, .inl f211))] H211 := hP211
  have hD211 : va_D A [(a0, .inr (14, rg 107 f171)), (q2, .inl (ca 2, 3000, .inl f2)), (q4, .inl (ca 2, 20, .inl f4)), (q6, .inl (ca 5, 2, .inr (.inr (.inr (.inr f12))))), (q7, .inr (13, rg 81 x8_0)), (q10, .inr (13, rg 81 x11_0)), (q14, .inr (13, rg 81 x15_0)), (q17, .inl (ca 0, 3001, .inl f17)), (q19, .inl (ca 0, 3001, .inl f19)), (q140, .inl (ca 0, 8, .inl f140)), (q172, .inl (ca 0, 89, .inl f211))] := hD211
  clear hP210 hD210 hS210 hF210
  refine lv_dup hx hb d_15_11_988 rfl ?_
  refine lv_bipush (v := 39) hx hb d_15_11_989 (by decide) ?_
  refine lv_sipush (v := 307) hx hb d_15_11_991 (by decide) ?_
  refine gast hx hb hK hP211 hD211 hS211 10 0 rfl rfl hF211 (k := 39) (by decide) (vinC (by decide)) d_15_11_994 (L' := [(39, 307), (38, 279), (37, 253), (36, 230), (35, 209), (34, 190), (33, 173), (32, 157), (31, 143), (30, 130), (29, 118), (28, 107), (27, 97), (26, 88), (25, 80), (24, 73), (23, 66), (22, 60), (21, 55), (20, 50), (19, 45), (18, 41), (17, 37), (16, 34), (15, 31), (14, 28), (13, 25), (12, 23), (11, 21), (10, 19), (9, 17), (8, 16), (7, 14), (6, 13), (5, 12), (4, 11), (3, 10), (2, 9), (1, 8), (0, 7)]) rfl (fun f212 H212 locs212 hF212 hP212 hD212 hS212 => ?_)
  have hP212 : va_P D cls [(a0, .inr (14, rg 107 f171)), (q2, .inl (ca 2, 3000, .inl f2)), (q4, .inl (ca 2, 20, .inl f4)), (q6, .inl (ca 5, 2, .inr (.inr (.inr (.inr f12))))), (q7, .inr (13, rg 81 x8_0)), (q10, .inr (13, rg 81 x11_0)), (q14, .inr (13, rg 81 x15_0)), (q17, .inl (ca 0, 3001, .inl f17)), (q19, .inl (ca 0, 3001, .inl f19)), (q140, .inl (ca 0, 8, .inl f140)), (q172, .inl (ca 0, 89, .inl f212))] H212 := hP212
  have hD212 : va_D A [(a0, .inr (14, rg 107 f171)), (q2, .inl (ca 2, 3000, .inl f2)), (q4, .inl (ca 2, 20, .inl f4)), (q6, .inl (ca 5, 2, .inr (.inr (.inr (.inr f12))))), (q7, .inr (13, rg 81 x8_0)), (q10, .inr (13, rg 81 x11_0)), (q14, .inr (13, rg 81 x15_0)), (q17, .inl (ca 0, 3001, .inl f17)), (q19, .inl (ca 0, 3001, .inl f19)), (q140, .inl (ca 0, 8, .inl f140)), (q172, .inl (ca 0, 89, .inl f212))] := hD212
  clear hP211 hD211 hS211 hF211
  refine lv_dup hx hb d_15_11_995 rfl ?_
  refine lv_bipush (v := 40) hx hb d_15_11_996 (by decide) ?_
  refine lv_sipush (v := 337) hx hb d_15_11_998 (by decide) ?_
  refine gast hx hb hK hP212 hD212 hS212 10 0 rfl rfl hF212 (k := 40) (by decide) (vinC (by decide)) d_15_11_1001 (L' := [(40, 337), (39, 307), (38, 279), (37, 253), (36, 230), (35, 209), (34, 190), (33, 173), (32, 157), (31, 143), (30, 130), (29, 118), (28, 107), (27, 97), (26, 88), (25, 80), (24, 73), (23, 66), (22, 60), (21, 55), (20, 50), (19, 45), (18, 41), (17, 37), (16, 34), (15, 31), (14, 28), (13, 25), (12, 23), (11, 21), (10, 19), (9, 17), (8, 16), (7, 14), (6, 13), (5, 12), (4, 11), (3, 10), (2, 9), (1, 8), (0, 7)]) rfl (fun f213 H213 locs213 hF213 hP213 hD213 hS213 => ?_)
  have hP213 : va_P D cls [(a0, .inr (14, rg 107 f171)), (q2, .inl (ca 2, 3000, .inl f2)), (q4, .inl (ca 2, 20, .inl f4)), (q6, .inl (ca 5, 2, .inr (.inr (.inr (.inr f12))))), (q7, .inr (13, rg 81 x8_0)), (q10, .inr (13, rg 81 x11_0)), (q14, .inr (13, rg 81 x15_0)), (q17, .inl (ca 0, 3001, .inl f17)), (q19, .inl (ca 0, 3001, .inl f19)), (q140, .inl (ca 0, 8, .inl f140)), (q172, .inl (ca 0, 89, .inl f213))] H213 := hP213
  have hD213 : va_D A [(a0, .inr (14, rg 107 f171)), (q2, .inl (ca 2, 3000, .inl f2)), (q4, .inl (ca 2, 20, .inl f4)), (q6, .inl (ca 5, 2, .inr (.inr (.inr (.inr f12))))), (q7, .inr (13, rg 81 x8_0)), (q10, .inr (13, rg 81 x11_0)), (q14, .inr (13, rg 81 x15_0)), (q17, .inl (ca 0, 3001, .inl f17)), (q19, .inl (ca 0, 3001, .inl f19)), (q140, .inl (ca 0, 8, .inl f140)), (q172, .inl (ca 0, 89, .inl f213))] := hD213
  clear hP212 hD212 hS212 hF212
  refine lv_dup hx hb d_15_11_1002 rfl ?_
  refine lv_bipush (v := 41) hx hb d_15_11_1003 (by decide) ?_
  refine lv_sipush (v := 371) hx hb d_15_11_1005 (by decide) ?_
  refine gast hx hb hK hP213 hD213 hS213 10 0 rfl rfl hF213 (k := 41) (by decide) (vinC (by decide)) d_15_11_1008 (L' := [(41, 371), (40, 337), (39, 307), (38, 279), (37, 253), (36, 230), (35, 209), (34, 190), (33, 173), (32, 157), (31, 143), (30, 130), (29, 118), (28, 107), (27, 97), (26, 88), (25, 80), (24, 73), (23, 66), (22, 60), (21, 55), (20, 50), (19, 45), (18, 41), (17, 37), (16, 34), (15, 31), (14, 28), (13, 25), (12, 23), (11, 21), (10, 19), (9, 17), (8, 16), (7, 14), (6, 13), (5, 12), (4, 11), (3, 10), (2, 9), (1, 8), (0, 7)]) rfl (fun f214 H214 locs214 hF214 hP214 hD214 hS214 => ?_)
  have hP214 : va_P D cls [(a0, .inr (14, rg 107 f171)), (q2, .inl (ca 2, 3000, .inl f2)), (q4, .inl (ca 2, 20, .inl f4)), (q6, .inl (ca 5, 2, .inr (.inr (.inr (.inr f12))))), (q7, .inr (13, rg 81 x8_0)), (q10, .inr (13, rg 81 x11_0)), (q14, .inr (13, rg 81 x15_0)), (q17, .inl (ca 0, 3001, .inl f17)), (q19, .inl (ca 0, 3001, .inl f19)), (q140, .inl (ca 0, 8, .inl f140)), (q172, .inl (ca 0, 89, .inl f214))] H214 := hP214
  have hD214 : va_D A [(a0, .inr (14, rg 107 f171)), (q2, .inl (ca 2, 3000, .inl f2)), (q4, .inl (ca 2, 20, .inl f4)), (q6, .inl (ca 5, 2, .inr (.inr (.inr (.inr f12))))), (q7, .inr (13, rg 81 x8_0)), (q10, .inr (13, rg 81 x11_0)), (q14, .inr (13, rg 81 x15_0)), (q17, .inl (ca 0, 3001, .inl f17)), (q19, .inl (ca 0, 3001, .inl f19)), (q140, .inl (ca 0, 8, .inl f140)), (q172, .inl (ca 0, 89, .inl f214))] := hD214
  clear hP213 hD213 hS213 hF213
  refine lv_dup hx hb d_15_11_1009 rfl ?_
  refine lv_bipush (v := 42) hx hb d_15_11_1010 (by decide) ?_
  refine lv_sipush (v := 408) hx hb d_15_11_1012 (by decide) ?_
  refine gast hx hb hK hP214 hD214 hS214 10 0 rfl rfl hF214 (k := 42) (by decide) (vinC (by decide)) d_15_11_1015 (L' := [(42, 408), (41, 371), (40, 337), (39, 307), (38, 279), (37, 253), (36, 230), (35, 209), (34, 190), (33, 173), (32, 157), (31, 143), (30, 130), (29, 118), (28, 107), (27, 97), (26, 88), (25, 80), (24, 73), (23, 66), (22, 60), (21, 55), (20, 50), (19, 45), (18, 41), (17, 37), (16, 34), (15, 31), (14, 28), (13, 25), (12, 23), (11, 21), (10, 19), (9, 17), (8, 16), (7, 14), (6, 13), (5, 12), (4, 11), (3, 10), (2, 9), (1, 8), (0, 7)]) rfl (fun f215 H215 locs215 hF215 hP215 hD215 hS215 => ?_)
  have hP215 : va_P D cls [(a0, .inr (14, rg 107 f171)), (q2, .inl (ca 2, 3000, .inl f2)), (q4, .inl (ca 2, 20, .inl f4)), (q6, .inl (ca 5, 2, .inr (.inr (.inr (.inr f12))))), (q7, .inr (13, rg 81 x8_0)), (q10, .inr (13, rg 81 x11_0)), (q14, .inr (13, rg 81 x15_0)), (q17, .inl (ca 0, 3001, .inl f17)), (q19, .inl (ca 0, 3001, .inl f19)), (q140, .inl (ca 0, 8, .inl f140)), (q172, .inl (ca 0, 89, .inl f215))] H215 := hP215
  have hD215 : va_D A [(a0, .inr (14, rg 107 f171)), (q2, .inl (ca 2, 3000, .inl f2)), (q4, .inl (ca 2, 20, .inl f4)), (q6, .inl (ca 5, 2, .inr (.inr (.inr (.inr f12))))), (q7, .inr (13, rg 81 x8_0)), (q10, .inr (13, rg 81 x11_0)), (q14, .inr (13, rg 81 x15_0)), (q17, .inl (ca 0, 3001, .inl f17)), (q19, .inl (ca 0, 3001, .inl f19)), (q140, .inl (ca 0, 8, .inl f140)), (q172, .inl (ca 0, 89, .inl f215))] := hD215
  clear hP214 hD214 hS214 hF214
  refine lv_dup hx hb d_15_11_1016 rfl ?_
  refine lv_bipush (v := 43) hx hb d_15_11_1017 (by decide) ?_
  refine lv_sipush (v := 449) hx hb d_15_11_1019 (by decide) ?_
  refine gast hx hb hK hP215 hD215 hS215 10 0 rfl rfl hF215 (k := 43) (by decide) (vinC (by decide)) d_15_11_1022 (L' := [(43, 449), (42, 408), (41, 371), (40, 337), (39, 307), (38, 279), (37, 253), (36, 230), (35, 209), (34, 190), (33, 173), (32, 157), (31, 143), (30, 130), (29, 118), (28, 107), (27, 97), (26, 88), (25, 80), (24, 73), (23, 66), (22, 60), (21, 55), (20, 50), (19, 45), (18, 41), (17, 37), (16, 34), (15, 31), (14, 28), (13, 25), (12, 23), (11, 21), (10, 19), (9, 17), (8, 16), (7, 14), (6, 13), (5, 12), (4, 11), (3, 10), (2, 9), (1, 8), (0, 7)]) rfl (fun f216 H216 locs216 hF216 hP216 hD216 hS216 => ?_)
  have hP216 : va_P D cls [(a0, .inr (14, rg 107 f171)), (q2, .inl (ca 2, 3000, .inl f2)), (q4, .inl (ca 2, 20, .inl f4)), (q6, .inl (ca 5, 2, .inr (.inr (.inr (.inr f12))))), (q7, .inr (13, rg 81 x8_0)), (q10, .inr (13, rg 81 x11_0)), (q14, .inr (13, rg 81 x15_0)), (q17, .inl (ca 0, 3001, .inl f17)), (q19, .inl (ca 0, 3001, .inl f19)), (q140, .inl (ca 0, 8, .inl f140)), (q172, .inl (ca 0, 89, .inl f216))] H216 := hP216
  have hD216 : va_D A [(a0, .inr (14, rg 107 f171)), (q2, .inl (ca 2, 3000, .inl f2)), (q4, .inl (ca 2, 20, .inl f4)), (q6, .inl (ca 5, 2, .inr (.inr (.inr (.inr f12))))), (q7, .inr (13, rg 81 x8_0)), (q10, .inr (13, rg 81 x11_0)), (q14, .inr (13, rg 81 x15_0)), (q17, .inl (ca 0, 3001, .inl f17)), (q19, .inl (ca 0, 3001, .inl f19)), (q140, .inl (ca 0, 8, .inl f140)), (q172, .inl (ca 0, 89, .inl f216))] := hD216
  clear hP215 hD215 hS215 hF215
  refine lv_dup hx hb d_15_11_1023 rfl ?_
  refine lv_bipush (v := 44) hx hb d_15_11_1024 (by decide) ?_
  refine lv_sipush (v := 494) hx hb d_15_11_1026 (by decide) ?_
  refine gast hx hb hK hP216 hD216 hS216 10 0 rfl rfl hF216 (k := 44) (by decide) (vinC (by decide)) d_15_11_1029 (L' := [(44, 494), (43, 449), (42, 408), (41, 371), (40, 337), (39, 307), (38, 279), (37, 253), (36, 230), (35, 209), (34, 190), (33, 173), (32, 157), (31, 143), (30, 130), (29, 118), (28, 107), (27, 97), (26, 88), (25, 80), (24, 73), (23, 66), (22, 60), (21, 55), (20, 50), (19, 45), (18, 41), (17, 37), (16, 34), (15, 31), (14, 28), (13, 25), (12, 23), (11, 21), (10, 19), (9, 17), (8, 16), (7, 14), (6, 13), (5, 12), (4, 11), (3, 10), (2, 9), (1, 8), (0, 7)]) rfl (fun f217 H217 locs217 hF217 hP217 hD217 hS217 => ?_)
  have hP217 : va_P D cls [(a0, .inr (14, rg 107 f171)), (q2, .inl (ca 2, 3000, .inl f2)), (q4, .inl (ca 2, 20, .inl f4)), (q6, .inl (ca 5, 2, .inr (.inr (.inr (.inr f12))))), (q7, .inr (13, rg 81 x8_0)), (q10, .inr (13, rg 81 x11_0)), (q14, .inr (13, rg 81 x15_0)), (q17, .inl (ca 0, 3001, .inl f17)), (q19, .inl (ca 0, 3001, .inl f19)), (q140, .inl (ca 0, 8, .inl f140)), (q172, .inl (ca 0, 89, .inl f217))] H217 := hP217
  have hD217 : va_D A [(a0, .inr (14, rg 107 f171)), (q2, .inl (ca 2, 3000, .inl f2)), (q4, .inl (ca 2, 20, .inl f4)), (q6, .inl (ca 5, 2, .inr (.inr (.inr (.inr f12))))), (q7, .inr (13, rg 81 x8_0)), (q10, .inr (13, rg 81 x11_0)), (q14, .inr (13, rg 81 x15_0)), (q17, .inl (ca 0, 3001, .inl f17)), (q19, .inl (ca 0, 3001, .inl f19)), (q140, .inl (ca 0, 8, .inl f140)), (q172, .inl (ca 0, 89, .inl f217))] := hD217
  clear hP216 hD216 hS216 hF216
  refine lv_dup hx hb d_15_11_1030 rfl ?_
  refine lv_bipush (v := 45) hx hb d_15_11_1031 (by decide) ?_
  refine lv_sipush (v := 544) hx hb d_15_11_1033 (by decide) ?_
  refine gast hx hb hK hP217 hD217 hS217 10 0 rfl rfl hF217 (k := 45) (by decide) (vinC (by decide)) d_15_11_1036 (L' := [(45, 544), (44, 494), (43, 449), (42, 408), (41, 371), (40, 337), (39, 307), (38, 279), (37, 253), (36, 230), (35, 209), (34, 190), (33, 173), (32, 157), (31, 143), (30, 130), (29, 118), (28, 107), (27, 97), (26, 88), (25, 80), (24, 73), (23, 66), (22, 60), (21, 55), (20, 50), (19, 45), (18, 41), (17, 37), (16, 34), (15, 31), (14, 28), (13, 25), (12, 23), (11, 21), (10, 19), (9, 17), (8, 16), (7, 14), (6, 13), (5, 12), (4, 11), (3, 10), (2, 9), (1, 8), (0, 7)]) rfl (fun f218 H218 locs218 hF218 hP218 hD218 hS218 => ?_)
  have hP218 : va_P D cls [(a0, .inr (14, rg 107 f171)), (q2, .inl (ca 2, 3000, .inl f2)), (q4, .inl (ca 2, 20, .inl f4)), (q6, .inl (ca 5, 2, .inr (.inr (.inr (.inr f12))))), (q7, .inr (13, rg 81 x8_0)), (q10, .inr (13, rg 81 x11_0)), (q14, .inr (13, rg 81 x15_0)), (q17, .inl (ca 0, 3001, .inl f17)), (q19, .inl (ca 0, 3001, .inl f19)), (q140, .inl (ca 0, 8, .inl f140)), (q172, .inl (ca 0, 89, .inl f218))] H218 := hP218
  have hD218 : va_D A [(a0, .inr (14, rg 107 f171)), (q2, .inl (ca 2, 3000, .inl f2)), (q4, .inl (ca 2, 20, .inl f4)), (q6, .inl (ca 5, 2, .inr (.inr (.inr (.inr f12))))), (q7, .inr (13, rg 81 x8_0)), (q10, .inr (13, rg 81 x11_0)), (q14, .inr (13, rg 81 x15_0)), (q17, .inl (ca 0, 3001, .inl f17)), (q19, .inl (ca 0, 3001, .inl f19)), (q140, .inl (ca 0, 8, .inl f140)), (q172, .inl (ca 0, 89, .inl f218))] := hD218
  clear hP217 hD217 hS217 hF217
  refine lv_dup hx hb d_15_11_1037 rfl ?_
  refine lv_bipush (v := 46) hx hb d_15_11_1038 (by decide) ?_
  refine lv_sipush (v := 598) hx hb d_15_11_1040 (by decide) ?_
  refine gast hx hb hK hP218 hD218 hS218 10 0 rfl rfl hF218 (k := 46) (by decide) (vinC (by decide)) d_15_11_1043 (L' := [(46, 598), (45, 544), (44, 494), (43, 449), (42, 408), (41, 371), (40, 337), (39, 307), (38, 279), (37, 253), (36, 230), (35, 209), (34, 190), (33, 173), (32, 157), (31, 143), (30, 130), (29, 118), (28, 107), (27, 97), (26, 88), (25, 80), (24, 73), (23, 66), (22, 60), (21, 55), (20, 50), (19, 45), (18, 41), (17, 37), (16, 34), (15, 31), (14, 28), (13, 25), (12, 23), (11, 21), (10, 19), (9, 17), (8, 16), (7, 14), (6, 13), (5, 12), (4, 11), (3, 10), (2, 9), (1, 8), (0, 7)]) rfl (fun f219 H219 locs219 hF219 hP219 hD219 hS219 => ?_)
  have hP219 : va_P D cls [(a0, .inr (14, rg 107 f171)), (q2, .inl (ca 2, 3000, .inl f2)), (q4, .inl (ca 2, 20, .inl f4)), (q6, .inl (ca 5, 2, .inr (.inr (.inr (.inr f12))))), (q7, .inr (13, rg 81 x8_0)), (q10, .inr (13, rg 81 x11_0)), (q14, .inr (13, rg 81 x15_0)), (q17, .inl (ca 0, 3001, .inl f17)), (q19, .inl (ca 0, 3001, .inl f19)), (q140, .inl (ca 0, 8, .inl f140)), (q172, .inl (ca 0, 89, .inl f219))] H219 := hP219
  have hD219 : va_D A [(a0, .inr (14, rg 107 f171)), (q2, .inl (ca 2, 3000, .inl f2)), (q4, .inl (ca 2, 20, .inl f4)), (q6, .inl (ca 5, 2, .inr (.inr (.inr (.inr f12))))), (q7, .inr (13, rg 81 x8_0)), (q10, .inr (13, rg 81 x11_0)), (q14, .inr (13, rg 81 x15_0)), (q17, .inl (ca 0, 3001, .inl f17)), (q19, .inl (ca 0, 3001, .inl f19)), (q140, .inl (ca 0, 8, .inl f140)), (q172, .inl (ca 0, 89, .inl f219))] := hD219
  clear hP218 hD218 hS218 hF218
  refine lv_dup hx hb d_15_11_1044 rfl ?_
  refine lv_bipush (v := 47) hx hb d_15_11_1045 (by decide) ?_
  refine lv_sipush (v := 658) hx hb d_15_11_1047 (by decide) ?_
  refine gast hx hb hK hP219 hD219 hS219 10 0 rfl rfl hF219 (k := 47) (by decide) (vinC (by decide)) d_15_11_1050 (L' := [(47, 658), (46, 598), (45, 544), (44, 494), (43, 449), (42, 408), (41, 371), (40, 337), (39, 307), (38, 279), (37, 253), (36, 230), (35, 209), (34, 190), (33, 173), (32, 157), (31, 143), (30, 130), (29, 118), (28, 107), (27, 97), (26, 88), (25, 80), (24, 73), (23, 66), (22, 60), (21, 55), (20, 50), (19, 45), (18, 41), (17, 37), (16, 34), (15, 31), (14, 28), (13, 25), (12, 23), (11, 21), (10, 19), (9, 17), (8, 16), (7, 14), (6, 13), (5, 12), (4, 11), (3, 10), (2, 9), (1, 8), (0, 7)]) rfl (fun f220 H220 locs220 hF220 hP220 hD220 hS220 => ?_)
  have hP220 : va_P D cls [(a0, .inr (14, rg 107 f171)), (q2, .inl (ca 2, 3000, .inl f2)), (q4, .inl (ca 2, 20, .inl f4)), (q6, .inl (ca 5, 2, .inr (.inr (.inr (.inr f12))))), (q7, .inr (13, rg 81 x8_0)), (q10, .inr (13, rg 81 x11_0)), (q14, .inr (13, rg 81 x15_0)), (q17, .inl (ca 0, 3001, .inl f17)), (q19, .inl (ca 0, 3001, .inl f19)), (q140, .inl (ca 0, 8, .inl f140)), (q172, .inl (ca 0, 89, .inl f220))] H220 := hP220
  have hD220 : va_D A [(a0, .inr (14, rg 107 f171)), (q2, .inl (ca 2, 3000, .inl f2)), (q4, .inl (ca 2, 20, .inl f4)), (q6, .inl (ca 5, 2, .inr (.inr (.inr (.inr f12))))), (q7, .inr (13, rg 81 x8_0)), (q10, .inr (13, rg 81 x11_0)), (q14, .inr (13, rg 81 x15_0)), (q17, .inl (ca 0, 3001, .inl f17)), (q19, .inl (ca 0, 3001, .inl f19)), (q140, .inl (ca 0, 8, .inl f140)), (q172, .inl (ca 0, 89, .inl f220))] := hD220
  clear hP219 hD219 hS219 hF219
  refine lv_dup hx hb d_15_11_1051 rfl ?_
  refine lv_bipush (v := 48) hx hb d_15_11_1052 (by decide) ?_
  refine lv_sipush (v := 724) hx hb d_15_11_1054 (by decide) ?_
  refine gast hx hb hK hP220 hD220 hS220 10 0 rfl rfl hF220 (k := 48) (by decide) (vinC (by decide)) d_15_11_1057 (L' := [(48, 724), (47, 658), (46, 598), (45, 544), (44, 494), (43, 449), (42, 408), (41, 371), (40, 337), (39, 307), (38, 279), (37, 253), (36, 230), (35, 209), (34, 190), (33, 173), (32, 157), (31, 143), (30, 130), (29, 118), (28, 107), (27, 97), (26, 88), (25, 80), (24, 73), (23, 66), (22, 60), (21, 55), (20, 50), (19, 45), (18, 41), (17, 37), (16, 34), (15, 31), (14, 28), (13, 25), (12, 23), (11, 21), (10, 19), (9, 17), (8, 16), (7, 14), (6, 13), (5, 12), (4, 11), (3, 10), (2, 9), (1, 8), (0, 7)]) rfl (fun f221 H221 locs221 hF221 hP221 hD221 hS221 => ?_)
  have hP221 : va_P D cls [(a0, .inr (14, rg 107 f171)), (q2, .inl (ca 2, 3000, .inl f2)), (q4, .inl (ca 2, 20, .inl f4)), (q6, .inl (ca 5, 2, .inr (.inr (.inr (.inr f12))))), (q7, .inr (13, rg 81 x8_0)), (q10, .inr (13, rg 81 x11_0)), (q14, .inr (13, rg 81 x15_0)), (q17, .inl (ca 0, 3001, .inl f17)), (q19, .inl (ca 0, 3001, .inl f19)), (q140, .inl (ca 0, 8, .inl f140)), (q172, .inl (ca 0, 89, .inl f221))] H221 := hP221
  have hD221 : va_D A [(a0, .inr (14, rg 107 f171)), (q2, .inl (ca 2, 3000, .inl f2)), (q4, .inl (ca 2, 20, .inl f4)), (q6, .inl (ca 5, 2, .inr (.inr (.inr (.inr f12))))), (q7, .inr (13, rg 81 x8_0)), (q10, .inr (13, rg 81 x11_0)), (q14, .inr (13, rg 81 x15_0)), (q17, .inl (ca 0, 3001, .inl f17)), (q19, .inl (ca 0, 3001, .inl f19)), (q140, .inl (ca 0, 8, .inl f140)), (q172, .inl (ca 0, 89, .inl f221))] := hD221
  clear hP220 hD220 hS220 hF220
  refine lv_dup hx hb d_15_11_1058 rfl ?_
  refine lv_bipush (v := 49) hx hb d_15_11_1059 (by decide) ?_
  refine lv_sipush (v := 796) hx hb d_15_11_1061 (by decide) ?_
  refine gast hx hb hK hP221 hD221 hS221 10 0 rfl rfl hF221 (k := 49) (by decide) (vinC (by decide)) d_15_11_1064 (L' := [(49, 796), (48, 724), (47, 658), (46, 598), (45, 544), (44, 494), (43, 449), (42, 408), (41, 371), (40, 337), (39, 307), (38, 279), (37, 253), (36, 230), (35, 209), (34, 190), (33, 173), (32, 157), (31, 143), (30, 130), (29, 118), (28, 107), (27, 97), (26, 88), (25, 80), (24, 73), (23, 66), (22, 60), (21, 55), (20, 50), (19, 45), (18, 41), (17, 37), (16, 34), (15, 31), (14, 28), (13, 25), (12, 23), (11, 21), (10, 19), (9, 17), (8, 16), (7, 14), (6, 13), (5, 12), (4, 11), (3, 10), (2, 9), (1, 8), (0, 7)]) rfl (fun f222 H222 locs222 hF222 hP222 hD222 hS222 => ?_)
  have hP222 : va_P D cls [(a0, .inr (14, rg 107 f171)), (q2, .inl (ca 2, 3000, .inl f2)), (q4, .inl (ca 2, 20, .inl f4)), (q6, .inl (ca 5, 2, .inr (.inr (.inr (.inr f12))))), (q7, .inr (13, rg 81 x8_0)), (q10, .inr (13, rg 81 x11_0)), (q14, .inr (13, rg 81 x15_0)), (q17, .inl (ca 0, 3001, .inl f17)), (q19, .inl (ca 0, 3001, .inl f19)), (q140, .inl (ca 0, 8, .inl f140)), (q172, .inl (ca 0, 89, .inl f222))] H222 := hP222
  have hD222 : va_D A [(a0, .inr (14, rg 107 f171)), (q2, .inl (ca 2, 3000, .inl f2)), (q4, .inl (ca 2, 20, .inl f4)), (q6, .inl (ca 5, 2, .inr (.inr (.inr (.inr f12))))), (q7, .inr (13, rg 81 x8_0)), (q10, .inr (13, rg 81 x11_0)), (q14, .inr (13, rg 81 x15_0)), (q17, .inl (ca 0, 3001, .inl f17)), (q19, .inl (ca 0, 3001, .inl f19)), (q140, .inl (ca 0, 8, .inl f140)), (q172, .inl (ca 0, 89, .inl f222))] := hD222
  clear hP221 hD221 hS221 hF221
  refine lv_dup hx hb d_15_11_1065 rfl ?_
  refine lv_bipush (v := 50) hx hb d_15_11_1066 (by decide) ?_
  refine lv_sipush (v := 876) hx hb d_15_11_1068 (by decide) ?_
  refine gast hx hb hK hP222 hD222 hS222 10 0 rfl rfl hF222 (k := 50) (by decide) (vinC (by decide)) d_15_11_1071 (L' := [(50, 876), (49, 796), (48, 724), (47, 658), (46, 598), (45, 544), (44, 494), (43, 449), (42, 408), (41, 371), (40, 337), (39, 307), (38, 279), (37, 253), (36, 230), (35, 209), (34, 190), (33, 173), (32, 157), (31, 143), (30, 130), (29, 118), (28, 107), (27, 97), (26, 88), (25, 80), (24, 73), (23, 66), (22, 60), (21, 55), (20, 50), (19, 45), (18, 41), (17, 37), (16, 34), (15, 31), (14, 28), (13, 25), (12, 23), (11, 21), (10, 19), (9, 17), (8, 16), (7, 14), (6, 13), (5, 12), (4, 11), (3, 10), (2, 9), (1, 8), (0, 7)]) rfl (fun f223 H223 locs223 hF223 hP223 hD223 hS223 => ?_)
  have hP223 : va_P D cls [(a0, .inr (14, rg 107 f171)), (q2, .inl (ca 2, 3000, .inl f2)), (q4, .inl (ca 2, 20, .inl f4)), (q6, .inl (ca 5, 2, .inr (.inr (.inr (.inr f12))))), (q7, .inr (13, rg 81 x8_0)), (q10, .inr (13, rg 81 x11_0)), (q14, .inr (13, rg 81 x15_0)), (q17, .inl (ca 0, 3001, .inl f17)), (q19, .inl (ca 0, 3001, .inl f19)), (q140, .inl (ca 0, 8, .inl f140)), (q172, .inl (ca 0, 89, .inl f223))] H223 := hP223
  have hD223 : va_D A [(a0, .inr (14, rg 107 f171)), (q2, .inl (ca 2, 3000, .inl f2)), (q4, .inl (ca 2, 20, .inl f4)), (q6, .inl (ca 5, 2, .inr (.inr (.inr (.inr f12))))), (q7, .inr (13, rg 81 x8_0)), (q10, .inr (13, rg 81 x11_0)), (q14, .inr (13, rg 81 x15_0)), (q17, .inl (ca 0, 3001, .inl f17)), (q19, .inl (ca 0, 3001, .inl f19)), (q140, .inl (ca 0, 8, .inl f140)), (q172, .inl (ca 0, 89, .inl f223))] := hD223
  clear hP222 hD222 hS222 hF222
  refine lv_dup hx hb d_15_11_1072 rfl ?_
  refine lv_bipush (v := 51) hx hb d_15_11_1073 (by decide) ?_
  refine lv_sipush (v := 963) hx hb d_15_11_1075 (by decide) ?_
  refine gast hx hb hK hP223 hD223 hS223 10 0 rfl rfl hF223 (k := 51) (by decide) (vinC (by decide)) d_15_11_1078 (L' := [(51, 963), (50, 876), (49, 796), (48, 724), (47, 658), (46, 598), (45, 544), (44, 494), (43, 449), (42, 408), (41, 371), (40, 337), (39, 307), (38, 279), (37, 253), (36, 230), (35, 209), (34, 190), (33, 173), (32, 157), (31, 143), (30, 130), (29, 118), (28, 107), (27, 97), (26, 88), (25, 80), (24, 73), (23, 66), (22, 60), (21, 55), (20, 50), (19, 45), (18, 41), (17, 37), (16, 34), (15, 31), (14, 28), (13, 25), (12, 23), (11, 21), (10, 19), (9, 17), (8, 16), (7, 14), (6, 13), (5, 12), (4, 11), (3, 10), (2, 9), (1, 8), (0, 7)]) rfl (fun f224 H224 locs224 hF224 hP224 hD224 hS224 => ?_)
  have hP224 : va_P D cls [(a0, .inr (14, rg 107 f171)), (q2, .inl (ca 2, 3000, .inl f2)), (q4, .inl (ca 2, 20, .inl f4)), (q6, .inl (ca 5, 2, .inr (.inr (.inr (.inr f12))))), (q7, .inr (13, rg 81 x8_0)), (q10, .inr (13, rg 81 x11_0)), (q14, .inr (13, rg 81 x15_0)), (q17, .inl (ca 0, 3001, .inl f17)), (q19, .inl (ca 0, 3001, .inl f19)), (q140, .inl (ca 0, 8, .inl f140)), (q172, .inl (ca 0, 89, .inl f224))] H224 := hP224
  have hD224 : va_D A [(a0, .inr (14, rg 107 f171)), (q2, .inl (ca 2, 3000, .inl f2)), (q4, .inl (ca 2, 20, .inl f4)), (q6, .inl (ca 5, 2, .inr (.inr (.inr (.inr f12))))), (q7, .inr (13, rg 81 x8_0)), (q10, .inr (13, rg 81 x11_0)), (q14, .inr (13, rg 81 x15_0)), (q17, .inl (ca 0, 3001, .inl f17)), (q19, .inl (ca 0, 3001, .inl f19)), (q140, .inl (ca 0, 8, .inl f140)), (q172, .inl (ca 0, 89, .inl f224))] := hD224
  clear hP223 hD223 hS223 hF223
  refine lv_dup hx hb d_15_11_1079 rfl ?_
  refine lv_bipush (v := 52) hx hb d_15_11_1080 (by decide) ?_
  refine lv_sipush (v := 1060) hx hb d_15_11_1082 (by decide) ?_
  refine gast hx hb hK hP224 hD224 hS224 10 0 rfl rfl hF224 (k := 52) (by decide) (vinC (by decide)) d_15_11_1085 (L' := [(52, 1060), (51, 963), (50, 876), (49, 796), (48, 724), (47, 658), (46, 598), (45, 544), (44, 494), (43, 449), (42, 408), (41, 371), (40, 337), (39, 307), (38, 279), (37, 253), (36, 230), (35, 209), (34, 190), (33, 173), (32, 157), (31, 143), (30, 130), (29, 118), (28, 107), (27, 97), (26, 88), (25, 80), (24, 73), (23, 66), (22, 60), (21, 55), (20, 50), (19, 45), (18, 41), (17, 37), (16, 34), (15, 31), (14, 28), (13, 25), (12, 23), (11, 21), (10, 19), (9, 17), (8, 16), (7, 14), (6, 13), (5, 12), (4, 11), (3, 10), (2, 9), (1, 8), (0, 7)]) rfl (fun f225 H225 locs225 hF225 hP225 hD225 hS225 => ?_)
  have hP225 : va_P D cls [(a0, .inr (14, rg 107 f171)), (q2, .inl (ca 2, 3000, .inl f2)), (q4, .inl (ca 2, 20, .inl f4)), (q6, .inl (ca 5, 2, .inr (.inr (.inr (.inr f12))))), (q7, .inr (13, rg 81 x8_0)), (q10, .inr (13, rg 81 x11_0)), (q14, .inr (13, rg 81 x15_0)), (q17, .inl (ca 0, 3001, .inl f17)), (q19, .inl (ca 0, 3001, .inl f19)), (q140, .inl (ca 0, 8, .inl f140)), (q172, .inl (ca 0, 89, .inl f225))] H225 := hP225
  have hD225 : va_D A [(a0, .inr (14, rg 107 f171)), (q2, .inl (ca 2, 3000, .inl f2)), (q4, .inl (ca 2, 20, .inl f4)), (q6, .inl (ca 5, 2, .inr (.inr (.inr (.inr f12))))), (q7, .inr (13, rg 81 x8_0)), (q10, .inr (13, rg 81 x11_0)), (q14, .inr (13, rg 81 x15_0)), (q17, .inl (ca 0, 3001, .inl f17)), (q19, .inl (ca 0, 3001, .inl f19)), (q140, .inl (ca 0, 8, .inl f140)), (q172, .inl (ca 0, 89, .inl f225))] := hD225
  clear hP224 hD224 hS224 hF224
  refine lv_dup hx hb d_15_11_1086 rfl ?_
  refine lv_bipush (v := 53) hx hb d_15_11_1087 (by decide) ?_
  refine lv_sipush (v := 1166) hx hb d_15_11_1089 (by decide) ?_
  refine gast hx hb hK hP225 hD225 hS225 10 0 rfl rfl hF225 (k := 53) (by decide) (vinC (by decide)) d_15_11_1092 (L' := [(53, 1166), (52, 1060), (51, 963), (50, 876), (49, 796), (48, 724), (47, 658), (46, 598), (45, 544), (44, 494), (43, 449), (42, 408), (41, 371), (40, 337), (39, 307), (38, 279), (37, 253), (36, 230), (35, 209), (34, 190), (33, 173), (32, 157), (31, 143), (30, 130), (29, 118), (28, 107), (27, 97), (26, 88), (25, 80), (24, 73), (23, 66), (22, 60), (21, 55), (20, 50), (19, 45), (18, 41), (17, 37), (16, 34), (15, 31), (14, 28), (13, 25), (12, 23), (11, 21), (10, 19), (9, 17), (8, 16), (7, 14), (6, 13), (5, 12), (4, 11), (3, 10), (2, 9), (1, 8), (0, 7)]) rfl (fun f226 H226 locs226 hF226 hP226 hD226 hS226 => ?_)
  have hP226 : va_P D cls [(a0, .inr (14, rg 107 f171)), (q2, .inl (ca 2, 3000, .inl f2)), (q4, .inl (ca 2, 20, .inl f4)), (q6, .inl (ca 5, 2, .inr (.inr (.inr (.inr f12))))), (q7, .inr (13, rg 81 x8_0)), (q10, .inr (13, rg 81 x11_0)), (q14, .inr (13, rg 81 x15_0)), (q17, .inl (ca 0, 3001, .inl f17)), (q19, .inl (ca 0, 3001, .inl f19)), (q140, .inl (ca 0, 8, .inl f140)), (q172, .inl (ca 0, 89, .inl f226))] H226 := hP226
  have hD226 : va_D A [(a0, .inr (14, rg 107 f171)), (q2, .inl (ca 2, 3000, .inl f2)), (q4, .inl (ca 2, 20, .inl f4)), (q6, .inl (ca 5, 2, .inr (.inr (.inr (.inr f12))))), (q7, .inr (13, rg 81 x8_0)), (q10, .inr (13, rg 81 x11_0)), (q14, .inr (13, rg 81 x15_0)), (q17, .inl (ca 0, 3001, .inl f17)), (q19, .inl (ca 0, 3001, .inl f19)), (q140, .inl (ca 0, 8, .inl f140)), (q172, .inl (ca 0, 89, .inl f226))] := hD226
  clear hP225 hD225 hS225 hF225
  refine lv_dup hx hb d_15_11_1093 rfl ?_
  refine lv_bipush (v := 54) hx hb d_15_11_1094 (by decide) ?_
  refine lv_sipush (v := 1282) hx hb d_15_11_1096 (by decide) ?_
  refine gast hx hb hK hP226 hD226 hS226 10 0 rfl rfl hF226 (k := 54) (by decide) (vinC (by decide)) d_15_11_1099 (L' := [(54, 1282), (53, 1166), (52, 1060), (51, 963), (50, 876), (49, 796), (48, 724), (47, 658), (46, 598), (45, 544), (44, 494), (43, 449), (42, 408), (41, 371), (40, 337), (39, 307), (38, 279), (37, 253), (36, 230), (35, 209), (34, 190), (33, 173), (32, 157), (31, 143), (30, 130), (29, 118), (28, 107), (27, 97), (26, 88), (25, 80), (24, 73), (23, 66), (22, 60), (21, 55), (20, 50), (19, 45), (18, 41), (17, 37), (16, 34), (15, 31), (14, 28), (13, 25), (12, 23), (11, 21), (10, 19), (9, 17), (8, 16), (7, 14), (6, 13), (5, 12), (4, 11), (3, 10), (2, 9), (1, 8), (0, 7)]) rfl (fun f227 H227 locs227 hF227 hP227 hD227 hS227 => ?_)
  have hP227 : va_P D cls [(a0, .inr (14, rg 107 f171)), (q2, .inl (ca 2, 3000, .inl f2)), (q4, .inl (ca 2, 20, .inl f4)), (q6, .inl (ca 5, 2, .inr (.inr (.inr (.inr f12))))), (q7, .inr (13, rg 81 x8_0)), (q10, .inr (13, rg 81 x11_0)), (q14, .inr (13, rg 81 x15_0)), (q17, .inl (ca 0, 3001, .inl f17)), (q19, .inl (ca 0, 3001, .inl f19)), (q140, .inl (ca 0, 8, .inl f140)), (q172, .inl (ca 0, 89, .inl f227))] H227 := hP227
  have hD227 : va_D A [(a0, .inr (14, rg 107 f171)), (q2, .inl (ca 2, 3000, .inl f2)), (q4, .inl (ca 2, 20, .inl f4)), (q6, .inl (ca 5, 2, .inr (.inr (.inr (.inr f12))))), (q7, .inr (13, rg 81 x8_0)), (q10, .inr (13, rg 81 x11_0)), (q14, .inr (13, rg 81 x15_0)), (q17, .inl (ca 0, 3001, .inl f17)), (q19, .inl (ca 0, 3001, .inl f19)), (q140, .inl (ca 0, 8, .inl f140)), (q172, .inl (ca 0, 89, .inl f227))] := hD227
  clear hP226 hD226 hS226 hF226
  refine lv_dup hx hb d_15_11_1100 rfl ?_
  refine lv_bipush (v := 55) hx hb d_15_11_1101 (by decide) ?_
  refine lv_sipush (v := 1411) hx hb d_15_11_1103 (by decide) ?_
  refine gast hx hb hK hP227 hD227 hS227 10 0 rfl rfl hF227 (k := 55) (by decide) (vinC (by decide)) d_15_11_1106 (L' := [(55, 1411), (54, 1282), (53, 1166), (52, 1060), (51, 963), (50, 876), (49, 796), (48, 724), (47, 658), (46, 598), (45, 544), (44, 494), (43, 449), (42, 408), (41, 371), (40, 337), (39, 307), (38, 279), (37, 253), (36, 230), (35, 209), (34, 190), (33, 173), (32, 157), (31, 143), (30, 130), (29, 118), (28, 107), (27, 97), (26, 88), (25, 80), (24, 73), (23, 66), (22, 60), (21, 55), (20, 50), (19, 45), (18, 41), (17, 37), (16, 34), (15, 31), (14, 28), (13, 25), (12, 23), (11, 21), (10, 19), (9, 17), (8, 16), (7, 14), (6, 13), (5, 12), (4, 11), (3, 10), (2, 9), (1, 8), (0, 7)]) rfl (fun f228 H228 locs228 hF228 hP228 hD228 hS228 => ?_)
  have hP228 : va_P D cls [(a0, .inr (14, rg 107 f171)), (q2, .inl (ca 2, 3000, .inl f2)), (q4, .inl (ca 2, 20, .inl f4)), (q6, .inl (ca 5, 2, .inr (.inr (.inr (.inr f12))))), (q7, .inr (13, rg 81 x8_0)), (q10, .inr (13, rg 81 x11_0)), (q14, .inr (13, rg 81 x15_0)), (q17, .inl (ca 0, 3001, .inl f17)), (q19, .inl (ca 0, 3001, .inl f19)), (q140, .inl (ca 0, 8, .inl f140)), (q172, .inl (ca 0, 89, .inl f228))] H228 := hP228
  have hD228 : va_D A [(a0, .inr (14, rg 107 f171)), (q2, .inl (ca 2, 3000, .inl f2)), (q4, .inl (ca 2, 20, .inl f4)), (q6, .inl (ca 5, 2, .inr (.inr (.inr (.inr f12))))), (q7, .inr (13, rg 81 x8_0)), (q10, .inr (13, rg 81 x11_0)), (q14, .inr (13, rg 81 x15_0)), (q17, .inl (ca 0, 3001, .inl f17)), (q19, .inl (ca 0, 3001, .inl f19)), (q140, .inl (ca 0, 8, .inl f140)), (q172, .inl (ca 0, 89, .inl f228))] := hD228
  clear hP227 hD227 hS227 hF227
  refine lv_dup hx hb d_15_11_1107 rfl ?_
  refine lv_bipush (v := 56) hx hb d_15_11_1108 (by decide) ?_
  refine lv_sipush (v := 1552) hx hb d_15_11_1110 (by decide) ?_
  refine gast hx hb hK hP228 hD228 hS228 10 0 rfl rfl hF228 (k := 56) (by decide) (vinC (by decide)) d_15_11_1113 (L' := [(56, 1552), (55, 1411), (54, 1282), (53, 1166), (52, 1060), (51, 963), (50, 876), (49, 796), (48, 724), (47, 658), (46, 598), (45, 544), (44, 494), (43, 449), (42, 408), (41, 371), (40, 337), (39, 307), (38, 279), (37, 253), (36, 230), (35, 209), (34, 190), (33, 173), (32, 157), (31, 143), (30, 130), (29, 118), (28, 107), (27, 97), (26, 88), (25, 80), (24, 73), (23, 66), (22, 60), (21, 55), (20, 50), (19, 45), (18, 41), (17, 37), (16, 34), (15, 31), (14, 28), (13, 25), (12, 23), (11, 21), (10, 19), (9, 17), (8, 16), (7, 14), (6, 13), (5, 12), (4, 11), (3, 10), (2, 9), (1, 8), (0, 7)]) rfl (fun f229 H229 locs229 hF229 hP229 hD229 hS229 => ?_)
  have hP229 : va_P D cls [(a0, .inr (14, rg 107 f171)), (q2, .inl (ca 2, 3000, .inl f2)), (q4, .inl (ca 2, 20, .inl f4)), (q6, .inl (ca 5, 2, .inr (.inr (.inr (.inr f12))))), (q7, .inr (13, rg 81 x8_0)), (q10, .inr (13, rg 81 x11_0)), (q14, .inr (13, rg 81 x15_0)), (q17, .inl (ca 0, 3001, .inl f17)), (q19, .inl (ca 0, 3001, .inl f19)), (q140, .inl (ca 0, 8, .inl f140)), (q172, .inl (ca 0, 89, .inl f229))] H229 := hP229
  have hD229 : va_D A [(a0, .inr (14, rg 107 f171)), (q2, .inl (ca 2, 3000, .inl f2)), (q4, .inl (ca 2, 20, .inl f4)), (q6, .inl (ca 5, 2, .inr (.inr (.inr (.inr f12))))), (q7, .inr (13, rg 81 x8_0)), (q10, .inr (13, rg 81 x11_0)), (q14, .inr (13, rg 81 x15_0)), (q17, .inl (ca 0, 3001, .inl f17)), (q19, .inl (ca 0, 3001, .inl f19)), (q140, .inl (ca 0, 8, .inl f140)), (q172, .inl (ca 0, 89, .inl f229))] := hD229
  clear hP228 hD228 hS228 hF228
  refine lv_dup hx hb d_15_11_1114 rfl ?_
  refine lv_bipush (v := 57) hx hb d_15_11_1115 (by decide) ?_
  refine lv_sipush (v := 1707) hx hb d_15_11_1117 (by decide) ?_
  refine gast hx hb hK hP229 hD229 hS229 10 0 rfl rfl hF229 (k := 57) (by decide) (vinC (by decide)) d_15_11_1120 (L' := [(57, 1707), (56, 1552), (55, 1411), (54, 1282), (53, 1166), (52, 1060), (51, 963), (50, 876), (49, 796), (48, 724), (47, 658), (46, 598), (45, 544), (44, 494), (43, 449), (42, 408), (41, 371), (40, 337), (39, 307), (38, 279), (37, 253), (36, 230), (35, 209), (34, 190), (33, 173), (32, 157), (31, 143), (30, 130), (29, 118), (28, 107), (27, 97), (26, 88), (25, 80), (24, 73), (23, 66), (22, 60), (21, 55), (20, 50), (19, 45), (18, 41), (17, 37), (16, 34), (15, 31), (14, 28), (13, 25), (12, 23), (11, 21), (10, 19), (9, 17), (8, 16), (7, 14), (6, 13), (5, 12), (4, 11), (3, 10), (2, 9), (1, 8), (0, 7)]) rfl (fun f230 H230 locs230 hF230 hP230 hD230 hS230 => ?_)
  have hP230 : va_P D cls [(a0, .inr (14, rg 107 f171)), (q2, .inl (ca 2, 3000, .inl f2)), (q4, .inl (ca 2, 20, .inl f4)), (q6, .inl (ca 5, 2, .inr (.inr (.inr (.inr f12))))), (q7, .inr (13, rg 81 x8_0)), (q10, .inr (13, rg 81 x11_0)), (q14, .inr (13, rg 81 x15_0)), (q17, .inl (ca 0, 3001, .inl f17)), (q19, .inl (ca 0, 3001, .inl f19)), (q140, .inl (ca 0, 8, .inl f140)), (q172, .inl (ca 0, 89, .inl f230))] H230 := hP230
  have hD230 : va_D A [(a0, .inr (14, rg 107 f171)), (q2, .inl (ca 2, 3000, .inl f2)), (q4, .inl (ca 2, 20, .inl f4)), (q6, .inl (ca 5, 2, .inr (.inr (.inr (.inr f12))))), (q7, .inr (13, rg 81 x8_0)), (q10, .inr (13, rg 81 x11_0)), (q14, .inr (13, rg 81 x15_0)), (q17, .inl (ca 0, 3001, .inl f17)), (q19, .inl (ca 0, 3001, .inl f19)), (q140, .inl (ca 0, 8, .inl f140)), (q172, .inl (ca 0, 89, .inl f230))] := hD230
  clear hP229 hD229 hS229 hF229
  refine lv_dup hx hb d_15_11_1121 rfl ?_
  refine lv_bipush (v := 58) hx hb d_15_11_1122 (by decide) ?_
  refine lv_sipush (v := 1878) hx hb d_15_11_1124 (by decide) ?_
  refine gast hx hb hK hP230 hD230 hS230 10 0 rfl rfl hF230 (k := 58) (by decide) (vinC (by decide)) d_15_11_1127 (L' := [(58, 1878), (57, 1707), (56, 1552), (55, 1411), (54, 1282), (53, 1166), (52, 1060), (51, 963), (50, 876), (49, 796), (48, 724), (47, 658), (46, 598), (45, 544), (44, 494), (43, 449), (42, 408), (41, 371), (40, 337), (39, 307), (38, 279), (37, 253), (36, 230), (35, 209), (34, 190), (33, 173), (32, 157), (31, 143), (30, 130), (29, 118), (28, 107), (27, 97), (26, 88), (25, 80), (24, 73), (23, 66), (22, 60), (21, 55), (20, 50), (19, 45), (18, 41), (17, 37), (16, 34), (15, 31), (14, 28), (13, 25), (12, 23), (11, 21), (10, 19), (9, 17), (8, 16), (7, 14), (6, 13), (5, 12), (4, 11), (3, 10), (2, 9), (1, 8), (0, 7)]) rfl (fun f231 H231 locs231 hF231 hP231 hD231 hS231 => ?_)
  have hP231 : va_P D cls [(a0, .inr (14, rg 107 f171)), (q2, .inl (ca 2, 3000, .inl f2)), (q4, .inl (ca 2, 20, .inl f4)), (q6, .inl (ca 5, 2, .inr (.inr (.inr (.inr f12))))), (q7, .inr (13, rg 81 x8_0)), (q10, .inr (13, rg 81 x11_0)), (q14, .inr (13, rg 81 x15_0)), (q17, .inl (ca 0, 3001, .inl f17)), (q19, .inl (ca 0, 3001, .inl f19)), (q140, .inl (ca 0, 8, .inl f140)), (q172, .inl (ca 0, 89, .inl f231))] H231 := hP231
  have hD231 : va_D A [(a0, .inr (14, rg 107 f171)), (q2, .inl (ca 2, 3000, .inl f2)), (q4, .inl (ca 2, 20, .inl f4)), (q6, .inl (ca 5, 2, .inr (.inr (.inr (.inr f12))))), (q7, .inr (13, rg 81 x8_0)), (q10, .inr (13, rg 81 x11_0)), (q14, .inr (13, rg 81 x15_0)), (q17, .inl (ca 0, 3001, .inl f17)), (q19, .inl (ca 0, 3001, .inl f19)), (q140, .inl (ca 0, 8, .inl f140)), (q172, .inl (ca 0, 89, .inl f231))] := hD231
  clear hP230 hD230 hS230 hF230
  refine lv_dup hx hb d_15_11_1128 rfl ?_
  refine lv_bipush (v := 59) hx hb d_15_11_1129 (by decide) ?_
  refine lv_sipush (v := 2066) hx hb d_15_11_1131 (by decide) ?_
  refine gast hx hb hK hP231 hD231 hS231 10 0 rfl rfl hF231 (k := 59) (by decide) (vinC (by decide)) d_15_11_1134 (L' := [(59, 2066), (58, 1878), (57, 1707), (56, 1552), (55, 1411), (54, 1282), (53, 1166), (52, 1060), (51, 963), (50, 876), (49, 796), (48, 724), (47, 658), (46, 598), (45, 544), (44, 494), (43, 449), (42, 408), (41, 371), (40, 337), (39, 307), (38, 279), (37, 253), (36, 230), (35, 209), (34, 190), (33, 173), (32, 157), (31, 143), (30, 130), (29, 118), (28, 107), (27, 97), (26, 88), (25, 80), (24, 73), (23, 66), (22, 60), (21, 55), (20, 50), (19, 45), (18, 41), (17, 37), (16, 34), (15, 31), (14, 28), (13, 25), (12, 23), (11, 21), (10, 19), (9, 17), (8, 16), (7, 14), (6, 13), (5, 12), (4, 11), (3, 10), (2, 9), (1, 8), (0, 7)]) rfl (fun f232 H232 locs232 hF232 hP232 hD232 hS232 => ?_)
  have hP232 : va_P D cls [(a0, .inr (14, rg 107 f171)), (q2, .inl (ca 2, 3000, .inl f2)), (q4, .inl (ca 2, 20, .inl f4)), (q6, .inl (ca 5, 2, .inr (.inr (.inr (.inr f12))))), (q7, .inr (13, rg 81 x8_0)), (q10, .inr (13, rg 81 x11_0)), (q14, .inr (13, rg 81 x15_0)), (q17, .inl (ca 0, 3001, .inl f17)), (q19, .inl (ca 0, 3001, .inl f19)), (q140, .inl (ca 0, 8, .inl f140)), (q172, .inl (ca 0, 89, .inl f232))] H232 := hP232
  have hD232 : va_D A [(a0, .inr (14, rg 107 f171)), (q2, .inl (ca 2, 3000, .inl f2)), (q4, .inl (ca 2, 20, .inl f4)), (q6, .inl (ca 5, 2, .inr (.inr (.inr (.inr f12))))), (q7, .inr (13, rg 81 x8_0)), (q10, .inr (13, rg 81 x11_0)), (q14, .inr (13, rg 81 x15_0)), (q17, .inl (ca 0, 3001, .inl f17)), (q19, .inl (ca 0, 3001, .inl f19)), (q140, .inl (ca 0, 8, .inl f140)), (q172, .inl (ca 0, 89, .inl f232))] := hD232
  clear hP231 hD231 hS231 hF231
  refine lv_dup hx hb d_15_11_1135 rfl ?_
  refine lv_bipush (v := 60) hx hb d_15_11_1136 (by decide) ?_
  refine lv_sipush (v := 2272) hx hb d_15_11_1138 (by decide) ?_
  refine gast hx hb hK hP232 hD232 hS232 10 0 rfl rfl hF232 (k := 60) (by decide) (vinC (by decide)) d_15_11_1141 (L' := [(60, 2272), (59, 2066), (58, 1878), (57, 1707), (56, 1552), (55, 1411), (54, 1282), (53, 1166), (52, 1060), (51, 963), (50, 876), (49, 796), (48, 724), (47, 658), (46, 598), (45, 544), (44, 494), (43, 449), (42, 408), (41, 371), (40, 337), (39, 307), (38, 279), (37, 253), (36, 230), (35, 209), (34, 190), (33, 173), (32, 157), (31, 143), (30, 130), (29, 118), (28, 107), (27, 97), (26, 88), (25, 80), (24, 73), (23, 66), (22, 60), (21, 55), (20, 50), (19, 45), (18, 41), (17, 37), (16, 34), (15, 31), (14, 28), (13, 25), (12, 23), (11, 21), (10, 19), (9, 17), (8, 16), (7, 14), (6, 13), (5, 12), (4, 11), (3, 10), (2, 9), (1, 8), (0, 7)]) rfl (fun f233 H233 locs233 hF233 hP233 hD233 hS233 => ?_)
  have hP233 : va_P D cls [(a0, .inr (14, rg 107 f171)), (q2, .inl (ca 2, 3000, .inl f2)), (q4, .inl (ca 2, 20, .inl f4)), (q6, .inl (ca 5, 2, .inr (.inr (.inr (.inr f12))))), (q7, .inr (13, rg 81 x8_0)), (q10, .inr (13, rg 81 x11_0)), (q14, .inr (13, rg 81 x15_0)), (q17, .inl (ca 0, 3001, .inl f17)), (q19, .inl (ca 0, 3001, .inl f19)), (q140, .inl (ca 0, 8, .inl f140)), (q172, .inl (ca 0, 89, .inl f233))] H233 := hP233
  have hD233 : va_D A [(a0, .inr (14, rg 107 f171)), (q2, .inl (ca 2, 3000, .inl f2)), (q4, .inl (ca 2, 20, .inl f4)), (q6, .inl (ca 5, 2, .inr (.inr (.inr (.inr f12))))), (q7, .inr (13, rg 81 x8_0)), (q10, .inr (13, rg 81 x11_0)), (q14, .inr (13, rg 81 x15_0)), (q17, .inl (ca 0, 3001, .inl f17)), (q19, .inl (ca 0, 3001, .inl f19)), (q140, .inl (ca 0, 8, .inl f140)), (q172, .inl (ca 0, 89, .inl f233))] := hD233
  clear hP232 hD232 hS232 hF232
  refine lv_dup hx hb d_15_11_1142 rfl ?_
  refine lv_bipush (v := 61) hx hb d_15_11_1143 (by decide) ?_
  refine lv_sipush (v := 2499) hx hb d_15_11_1145 (by decide) ?_
  refine gast hx hb hK hP233 hD233 hS233 10 0 rfl rfl hF233 (k := 61) (by decide) (vinC (by decide)) d_15_11_1148 (L' := [(61, 2499), (60, 2272), (59, 2066), (58, 1878), (57, 1707), (56, 1552), (55, 1411), (54, 1282), (53, 1166), (52, 1060), (51, 963), (50, 876), (49, 796), (48, 724), (47, 658), (46, 598), (45, 544), (44, 494), (43, 449), (42, 408), (41, 371), (40, 337), (39, 307), (38, 279), (37, 253), (36, 230), (35, 209), (34, 190), (33, 173), (32, 157), (31, 143), (30, 130), (29, 118), (28, 107), (27, 97), (26, 88), (25, 80), (24, 73), (23, 66), (22, 60), (21, 55), (20, 50), (19, 45), (18, 41), (17, 37), (16, 34), (15, 31), (14, 28), (13, 25), (12, 23), (11, 21), (10, 19), (9, 17), (8, 16), (7, 14), (6, 13), (5, 12), (4, 11), (3, 10), (2, 9), (1, 8), (0, 7)]) rfl (fun f234 H234 locs234 hF234 hP234 hD234 hS234 => ?_)
  have hP234 : va_P D cls [(a0, .inr (14, rg 107 f171)), (q2, .inl (ca 2, 3000, .inl f2)), (q4, .inl (ca 2, 20, .inl f4)), (q6, .inl (ca 5, 2, .inr (.inr (.inr (.inr f12))))), (q7, .inr (13, rg 81 x8_0)), (q10, .inr (13, rg 81 x11_0)), (q14, .inr (13, rg 81 x15_0)), (q17, .inl (ca 0, 3001, .inl f17)), (q19, .inl (ca 0, 3001, .inl f19)), (q140, .inl (ca 0, 8, .inl f140)), (q172, .inl (ca 0, 89, .inl f234))] H234 := hP234
  have hD234 : va_D A [(a0, .inr (14, rg 107 f171)), (q2, .inl (ca 2, 3000, .inl f2)), (q4, .inl (ca 2, 20, .inl f4)), (q6, .inl (ca 5, 2, .inr (.inr (.inr (.inr f12))))), (q7, .inr (13, rg 81 x8_0)), (q10, .inr (13, rg 81 x11_0)), (q14, .inr (13, rg 81 x15_0)), (q17, .inl (ca 0, 3001, .inl f17)), (q19, .inl (ca 0, 3001, .inl f19)), (q140, .inl (ca 0, 8, .inl f140)), (q172, .inl (ca 0, 89, .inl f234))] := hD234
  clear hP233 hD233 hS233 hF233
  refine lv_dup hx hb d_15_11_1149 rfl ?_
  refine lv_bipush (v := 62) hx hb d_15_11_1150 (by decide) ?_
  refine lv_sipush (v := 2749) hx hb d_15_11_1152 (by decide) ?_
  refine gast hx hb hK hP234 hD234 hS234 10 0 rfl rfl hF234 (k := 62) (by decide) (vinC (by decide)) d_15_11_1155 (L' := [(62, 2749), (61, 2499), (60, 2272), (59, 2066), (58, 1878), (57, 1707), (56, 1552), (55, 1411), (54, 1282), (53, 1166), (52, 1060), (51, 963), (50, 876), (49, 796), (48, 724), (47, 658), (46, 598), (45, 544), (44, 494), (43, 449), (42, 408), (41, 371), (40, 337), (39, 307), (38, 279), (37, 253), (36, 230), (35, 209), (34, 190), (33, 173), (32, 157), (31, 143), (30, 130), (29, 118), (28, 107), (27, 97), (26, 88), (25, 80), (24, 73), (23, 66), (22, 60), (21, 55), (20, 50), (19, 45), (18, 41), (17, 37), (16, 34), (15, 31), (14, 28), (13, 25), (12, 23), (11, 21), (10, 19), (9, 17), (8, 16), (7, 14), (6, 13), (5, 12), (4, 11), (3, 10), (2, 9), (1, 8), (0, 7)]) rfl (fun f235 H235 locs235 hF235 hP235 hD235 hS235 => ?_)
  have hP235 : va_P D cls [(a0, .inr (14, rg 107 f171)), (q2, .inl (ca 2, 3000, .inl f2)), (q4, .inl (ca 2, 20, .inl f4)), (q6, .inl (ca 5, 2, .inr (.inr (.inr (.inr f12))))), (q7, .inr (13, rg 81 x8_0)), (q10, .inr (13, rg 81 x11_0)), (q14, .inr (13, rg 81 x15_0)), (q17, .inl (ca 0, 3001, .inl f17)), (q19, .inl (ca 0, 3001, .inl f19)), (q140, .inl (ca 0, 8, .inl f140)), (q172, .inl (ca 0, 89, .inl f235))] H235 := hP235
  have hD235 : va_D A [(a0, .inr (14, rg 107 f171)), (q2, .inl (ca 2, 3000, .inl f2)), (q4, .inl (ca 2, 20, .inl f4)), (q6, .inl (ca 5, 2, .inr (.inr (.inr (.inr f12))))), (q7, .inr (13, rg 81 x8_0)), (q10, .inr (13, rg 81 x11_0)), (q14, .inr (13, rg 81 x15_0)), (q17, .inl (ca 0, 3001, .inl f17)), (q19, .inl (ca 0, 3001, .inl f19)), (q140, .inl (ca 0, 8, .inl f140)), (q172, .inl (ca 0, 89, .inl f235))] := hD235
  clear hP234 hD234 hS234 hF234
  refine lv_dup hx hb d_15_11_1156 rfl ?_
  refine lv_bipush (v := 63) hx hb d_15_11_1157 (by decide) ?_
  refine lv_sipush (v := 3024) hx hb d_15_11_1159 (by decide) ?_
  refine gast hx hb hK hP235 hD235 hS235 10 0 rfl rfl hF235 (k := 63) (by decide) (vinC (by decide)) d_15_11_1162 (L' := [(63, 3024), (62, 2749), (61, 2499), (60, 2272), (59, 2066), (58, 1878), (57, 1707), (56, 1552), (55, 1411), (54, 1282), (53, 1166), (52, 1060), (51, 963), (50, 876), (49, 796), (48, 724), (47, 658), (46, 598), (45, 544), (44, 494), (43, 449), (42, 408), (41, 371), (40, 337), (39, 307), (38, 279), (37, 253), (36, 230), (35, 209), (34, 190), (33, 173), (32, 157), (31, 143), (30, 130), (29, 118), (28, 107), (27, 97), (26, 88), (25, 80), (24, 73), (23, 66), (22, 60), (21, 55), (20, 50), (19, 45), (18, 41), (17, 37), (16, 34), (15, 31), (14, 28), (13, 25), (12, 23), (11, 21), (10, 19), (9, 17), (8, 16), (7, 14), (6, 13), (5, 12), (4, 11), (3, 10), (2, 9), (1, 8), (0, 7)]) rfl (fun f236 H236 locs236 hF236 hP236 hD236 hS236 => ?_)
  have hP236 : va_P D cls [(a0, .inr (14, rg 107 f171)), (q2, .inl (ca 2, 3000, .inl f2)), (q4, .inl (ca 2, 20, .inl f4)), (q6, .inl (ca 5, 2, .inr (.inr (.inr (.inr f12))))), (q7, .inr (13, rg 81 x8_0)), (q10, .inr (13, rg 81 x11_0)), (q14, .inr (13, rg 81 x15_0)), (q17, .inl (ca 0, 3001, .inl f17)), (q19, .inl (ca 0, 3001, .inl f19)), (q140, .inl (ca 0, 8, .inl f140)), (q172, .inl (ca 0, 89, .inl f236))] H236 := hP236
  have hD236 : va_D A [(a0, .inr (14, rg 107 f171)), (q2, .inl (ca 2, 3000, .inl f2)), (q4, .inl (ca 2, 20, .inl f4)), (q6, .inl (ca 5, 2, .inr (.inr (.inr (.inr f12))))), (q7, .inr (13, rg 81 x8_0)), (q10, .inr (13, rg 81 x11_0)), (q14, .inr (13, rg 81 x15_0)), (q17, .inl (ca 0, 3001, .inl f17)), (q19, .inl (ca 0, 3001, .inl f19)), (q140, .inl (ca 0, 8, .inl f140)), (q172, .inl (ca 0, 89, .inl f236))] := hD236
  clear hP235 hD235 hS235 hF235
  refine lv_dup hx hb d_15_11_1163 rfl ?_
  refine lv_bipush (v := 64) hx hb d_15_11_1164 (by decide) ?_
  refine lv_sipush (v := 3327) hx hb d_15_11_1166 (by decide) ?_
  refine gast hx hb hK hP236 hD236 hS236 10 0 rfl rfl hF236 (k := 64) (by decide) (vinC (by decide)) d_15_11_1169 (L' := [(64, 3327), (63, 3024), (62, 2749), (61, 2499), (60, 2272), (59, 2066), (58, 1878), (57, 1707), (56, 1552), (55, 1411), (54, 1282), (53, 1166), (52, 1060), (51, 963), (50, 876), (49, 796), (48, 724), (47, 658), (46, 598), (45, 544), (44, 494), (43, 449), (42, 408), (41, 371), (40, 337), (39, 307), (38, 279), (37, 253), (36, 230), (35, 209), (34, 190), (33, 173), (32, 157), (31, 143), (30, 130), (29, 118), (28, 107), (27, 97), (26, 88), (25, 80), (24, 73), (23, 66), (22, 60), (21, 55), (20, 50), (19, 45), (18, 41), (17, 37), (16, 34), (15, 31), (14, 28), (13, 25), (12, 23), (11, 21), (10, 19), (9, 17), (8, 16), (7, 14), (6, 13), (5, 12), (4, 11), (3, 10), (2, 9), (1, 8), (0, 7)]) rfl (fun f237 H237 locs237 hF237 hP237 hD237 hS237 => ?_)
  have hP237 : va_P D cls [(a0, .inr (14, rg 107 f171)), (q2, .inl (ca 2, 3000, .inl f2)), (q4, .inl (ca 2, 20, .inl f4)), (q6, .inl (ca 5, 2, .inr (.inr (.inr (.inr f12))))), (q7, .inr (13, rg 81 x8_0)), (q10, .inr (13, rg 81 x11_0)), (q14, .inr (13, rg 81 x15_0)), (q17, .inl (ca 0, 3001, .inl f17)), (q19, .inl (ca 0, 3001, .inl f19)), (q140, .inl (ca 0, 8, .inl f140)), (q172, .inl (ca 0, 89, .inl f237))] H237 := hP237
  have hD237 : va_D A [(a0, .inr (14, rg 107 f171)), (q2, .inl (ca 2, 3000, .inl f2)), (q4, .inl (ca 2, 20, .inl f4)), (q6, .inl (ca 5, 2, .inr (.inr (.inr (.inr f12))))), (q7, .inr (13, rg 81 x8_0)), (q10, .inr (13, rg 81 x11_0)), (q14, .inr (13, rg 81 x15_0)), (q17, .inl (ca 0, 3001, .inl f17)), (q19, .inl (ca 0, 3001, .inl f19)), (q140, .inl (ca 0, 8, .inl f140)), (q172, .inl (ca 0, 89, .inl f237))] := hD237
  clear hP236 hD236 hS236 hF236
  refine lv_dup hx hb d_15_11_1170 rfl ?_
  refine lv_bipush (v := 65) hx hb d_15_11_1171 (by decide) ?_
  refine lv_sipush (v := 3660) hx hb d_15_11_1173 (by decide) ?_
  refine gast hx hb hK hP237 hD237 hS237 10 0 rfl rfl hF237 (k := 65) (by decide) (vinC (by decide)) d_15_11_1176 (L' := [(65, 3660), (64, 3327), (63, 3024), (62, 2749), (61, 2499), (60, 2272), (59, 2066), (58, 1878), (57, 1707), (56, 1552), (55, 1411), (54, 1282), (53, 1166), (52, 1060), (51, 963), (50, 876), (49, 796), (48, 724), (47, 658), (46, 598), (45, 544), (44, 494), (43, 449), (42, 408), (41, 371), (40, 337), (39, 307), (38, 279), (37, 253), (36, 230), (35, 209), (34, 190), (33, 173), (32, 157), (31, 143), (30, 130), (29, 118), (28, 107), (27, 97), (26, 88), (25, 80), (24, 73), (23, 66), (22, 60), (21, 55), (20, 50), (19, 45), (18, 41), (17, 37), (16, 34), (15, 31), (14, 28), (13, 25), (12, 23), (11, 21), (10, 19), (9, 17), (8, 16), (7, 14), (6, 13), (5, 12), (4, 11), (3, 10), (2, 9), (1, 8), (0, 7)]) rfl (fun f238 H238 locs238 hF238 hP238 hD238 hS238 => ?_)
  have hP238 : va_P D cls [(a0, .inr (14, rg 107 f171)), (q2, .inl (ca 2, 3000, .inl f2)), (q4, .inl (ca 2, 20, .inl f4)), (q6, .inl (ca 5, 2, .inr (.inr (.inr (.inr f12))))), (q7, .inr (13, rg 81 x8_0)), (q10, .inr (13, rg 81 x11_0)), (q14, .inr (13, rg 81 x15_0)), (q17, .inl (ca 0, 3001, .inl f17)), (q19, .inl (ca 0, 3001, .inl f19)), (q140, .inl (ca 0, 8, .inl f140)), (q172, .inl (ca 0, 89, .inl f238))] H238 := hP238
  have hD238 : va_D A [(a0, .inr (14, rg 107 f171)), (q2, .inl (ca 2, 3000, .inl f2)), (q4, .inl (ca 2, 20, .inl f4)), (q6, .inl (ca 5, 2, .inr (.inr (.inr (.inr f12))))), (q7, .inr (13, rg 81 x8_0)), (q10, .inr (13, rg 81 x11_0)), (q14, .inr (13, rg 81 x15_0)), (q17, .inl (ca 0, 3001, .inl f17)), (q19, .inl (ca 0, 3001, .inl f19)), (q140, .inl (ca 0, 8, .inl f140)), (q172, .inl (ca 0, 89, .inl f238))] := hD238
  clear hP237 hD237 hS237 hF237
  refine lv_dup hx hb d_15_11_1177 rfl ?_
  refine lv_bipush (v := 66) hx hb d_15_11_1178 (by decide) ?_
  refine lv_sipush (v := 4026) hx hb d_15_11_1180 (by decide) ?_
  refine gast hx hb hK hP238 hD238 hS238 10 0 rfl rfl hF238 (k := 66) (by decide) (vinC (by decide)) d_15_11_1183 (L' := [(66, 4026), (65, 3660), (64, 3327), (63, 3024), (62, 2749), (61, 2499), (60, 2272), (59, 2066), (58, 1878), (57, 1707), (56, 1552), (55, 1411), (54, 1282), (53, 1166), (52, 1060), (51, 963), (50, 876), (49, 796), (48, 724), (47, 658), (46, 598), (45, 544), (44, 494), (43, 449), (42, 408), (41, 371), (40, 337), (39, 307), (38, 279), (37, 253), (36, 230), (35, 209), (34, 190), (33, 173), (32, 157), (31, 143), (30, 130), (29, 118), (28, 107), (27, 97), (26, 88), (25, 80), (24, 73), (23, 66), (22, 60), (21, 55), (20, 50), (19, 45), (18, 41), (17, 37), (16, 34), (15, 31), (14, 28), (13, 25), (12, 23), (11, 21), (10, 19), (9, 17), (8, 16), (7, 14), (6, 13), (5, 12), (4, 11), (3, 10), (2, 9), (1, 8), (0, 7)]) rfl (fun f239 H239 locs239 hF239 hP239 hD239 hS239 => ?_)
  have hP239 : va_P D cls [(a0, .inr (14, rg 107 f171)), (q2, .inl (ca 2, 3000, .inl f2)), (q4, .inl (ca 2, 20, .inl f4)), (q6, .inl (ca 5, 2, .inr (.inr (.inr (.inr f12))))), (q7, .inr (13, rg 81 x8_0)), (q10, .inr (13, rg 81 x11_0)), (q14, .inr (13, rg 81 x15_0)), (q17, .inl (ca 0, 3001, .inl f17)), (q19, .inl (ca 0, 3001, .inl f19)), (q140, .inl (ca 0, 8, .inl f140)), (q172, .inl (ca 0, 89, .inl f239))] H239 := hP239
  have hD239 : va_D A [(a0, .inr (14, rg 107 f171)), (q2, .inl (ca 2, 3000, .inl f2)), (q4, .inl (ca 2, 20, .inl f4)), (q6, .inl (ca 5, 2, .inr (.inr (.inr (.inr f12))))), (q7, .inr (13, rg 81 x8_0)), (q10, .inr (13, rg 81 x11_0)), (q14, .inr (13, rg 81 x15_0)), (q17, .inl (ca 0, 3001, .inl f17)), (q19, .inl (ca 0, 3001, .inl f19)), (q140, .inl (ca 0, 8, .inl f140)), (q172, .inl (ca 0, 89, .inl f239))] := hD239
  clear hP238 hD238 hS238 hF238
  refine lv_dup hx hb d_15_11_1184 rfl ?_
  refine lv_bipush (v := 67) hx hb d_15_11_1185 (by decide) ?_
  refine lv_sipush (v := 4428) hx hb d_15_11_1187 (by decide) ?_
  refine gast hx hb hK hP239 hD239 hS239 10 0 rfl rfl hF239 (k := 67) (by decide) (vinC (by decide)) d_15_11_1190 (L' := [(67, 4428), (66, 4026), (65, 3660), (64, 3327), (63, 3024), (62, 2749), (61, 2499), (60, 2272), (59, 2066), (58, 1878), (57, 1707), (56, 1552), (55, 1411), (54, 1282), (53, 1166), (52, 1060), (51, 963), (50, 876), (49, 796), (48, 724), (47, 658), (46, 598), (45, 544), (44, 494), (43, 449), (42, 408), (41, 371), (40, 337), (39, 307), (38, 279), (37, 253), (36, 230), (35, 209), (34, 190), (33, 173), (32, 157), (31, 143), (30, 130), (29, 118), (28, 107), (27, 97), (26, 88), (25, 80), (24, 73), (23, 66), (22, 60), (21, 55), (20, 50), (19, 45), (18, 41), (17, 37), (16, 34), (15, 31), (14, 28), (13, 25), (12, 23), (11, 21), (10, 19), (9, 17), (8, 16), (7, 14), (6, 13), (5, 12), (4, 11), (3, 10), (2, 9), (1, 8), (0, 7)]) rfl (fun f240 H240 locs240 hF240 hP240 hD240 hS240 => ?_)
  have hP240 : va_P D cls [(a0, .inr (14, rg 107 f171)), (q2, .inl (ca 2, 3000, .inl f2)), (q4, .inl (ca 2, 20, .inl f4)), (q6, .inl (ca 5, 2, .inr (.inr (.inr (.inr f12))))), (q7, .inr (13, rg 81 x8_0)), (q10, .inr (13, rg 81 x11_0)), (q14, .inr (13, rg 81 x15_0)), (q17, .inl (ca 0, 3001, .inl f17)), (q19, .inl (ca 0, 3001, .inl f19)), (q140, .inl (ca 0, 8, .inl f140)), (q172, .inl (ca 0, 89, .inl f240))] H240 := hP240
  have hD240 : va_D A [(a0, .inr (14, rg 107 f171)), (q2, .inl (ca 2, 3000, .inl f2)), (q4, .inl (ca 2, 20, .inl f4)), (q6, .inl (ca 5, 2, .inr (.inr (.inr (.inr f12))))), (q7, .inr (13, rg 81 x8_0)), (q10, .inr (13, rg 81 x11_0)), (q14, .inr (13, rg 81 x15_0)), (q17, .inl (ca 0, 3001, .inl f17)), (q19, .inl (ca 0, 3001, .inl f19)), (q140, .inl (ca 0, 8, .inl f140)), (q172, .inl (ca 0, 89, .inl f240))] := hD240
  clear hP239 hD239 hS239 hF239
  refine lv_dup hx hb d_15_11_1191 rfl ?_
  refine lv_bipush (v := 68) hx hb d_15_11_1192 (by decide) ?_
  refine lv_sipush (v := 4871) hx hb d_15_11_1194 (by decide) ?_
  refine gast hx hb hK hP240 hD240 hS240 10 0 rfl rfl hF240 (k := 68) (by decide) (vinC (by decide)) d_15_11_1197 (L' := [(68, 4871), (67, 4428), (66, 4026), (65, 3660), (64, 3327), (63, 3024), (62, 2749), (61, 2499), (60, 2272), (59, 2066), (58, 1878), (57, 1707), (56, 1552), (55, 1411), (54, 1282), (53, 1166), (52, 1060), (51, 963), (50, 876), (49, 796), (48, 724), (47, 658), (46, 598), (45, 544), (44, 494), (43, 449), (42, 408), (41, 371), (40, 337), (39, 307), (38, 279), (37, 253), (36, 230), (35, 209), (34, 190), (33, 173), (32, 157), (31, 143), (30, 130), (29, 118), (28, 107), (27, 97), (26, 88), (25, 80), (24, 73), (23, 66), (22, 60), (21, 55), (20, 50), (19, 45), (18, 41), (17, 37), (16, 34), (15, 31), (14, 28), (13, 25), (12, 23), (11, 21), (10, 19), (9, 17), (8, 16), (7, 14), (6, 13), (5, 12), (4, 11), (3, 10), (2, 9), (1, 8), (0, 7)]) rfl (fun f241 H241 locs241 hF241 hP241 hD241 hS241 => ?_)
  have hP241 : va_P D cls [(a0, .inr (14, rg 107 f171)), (q2, .inl (ca 2, 3000, .inl f2)), (q4, .inl (ca 2, 20, .inl f4)), (q6, .inl (ca 5, 2, .inr (.inr (.inr (.inr f12))))), (q7, .inr (13, rg 81 x8_0)), (q10, .inr (13, rg 81 x11_0)), (q14, .inr (13, rg 81 x15_0)), (q17, .inl (ca 0, 3001, .inl f17)), (q19, .inl (ca 0, 3001, .inl f19)), (q140, .inl (ca 0, 8, .inl f140)), (q172, .inl (ca 0, 89, .inl f241))] H241 := hP241
  have hD241 : va_D A [(a0, .inr (14, rg 107 f171)), (q2, .inl (ca 2, 3000, .inl f2)), (q4, .inl (ca 2, 20, .inl f4)), (q6, .inl (ca 5, 2, .inr (.inr (.inr (.inr f12))))), (q7, .inr (13, rg 81 x8_0)), (q10, .inr (13, rg 81 x11_0)), (q14, .inr (13, rg 81 x15_0)), (q17, .inl (ca 0, 3001, .inl f17)), (q19, .inl (ca 0, 3001, .inl f19)), (q140, .inl (ca 0, 8, .inl f140)), (q172, .inl (ca 0, 89, .inl f241))] := hD241
  clear hP240 hD240 hS240 hF240
  refine lv_dup hx hb d_15_11_1198 rfl ?_
  refine lv_bipush (v := 69) hx hb d_15_11_1199 (by decide) ?_
  refine lv_sipush (v := 5358) hx hb d_15_11_1201 (by decide) ?_
  refine gast hx hb hK hP241 hD241 hS241 10 0 rfl rfl hF241 (k := 69) (by decide) (vinC (by decide)) d_15_11_1204 (L' := [(69, 5358), (68, 4871), (67, 4428), (66, 4026), (65, 3660), (64, 3327), (63, 3024), (62, 2749), (61, 2499), (60, 2272), (59, 2066), (58, 1878), (57, 1707), (56, 1552), (55, 1411), (54, 1282), (53, 1166), (52, 1060), (51, 963), (50, 876), (49, 796), (48, 724), (47, 658), (46, 598), (45, 544), (44, 494), (43, 449), (42, 408), (41, 371), (40, 337), (39, 307), (38, 279), (37, 253), (36, 230), (35, 209), (34, 190), (33, 173), (32, 157), (31, 143), (30, 130), (29, 118), (28, 107), (27, 97), (26, 88), (25, 80), (24, 73), (23, 66), (22, 60), (21, 55), (20, 50), (19, 45), (18, 41), (17, 37), (16, 34), (15, 31), (14, 28), (13, 25), (12, 23), (11, 21), (10, 19), (9, 17), (8, 16), (7, 14), (6, 13), (5, 12), (4, 11), (3, 10), (2, 9), (1, 8), (0, 7)]) rfl (fun f242 H242 locs242 hF242 hP242 hD242 hS242 => ?_)
  have hP242 : va_P D cls [(a0, .inr (14, rg 107 f171)), (q2, .inl (ca 2, 3000, .inl f2)), (q4, .inl (ca 2, 20, .inl f4)), (q6, .inl (ca 5, 2, .inr (.inr (.inr (.inr f12))))), (q7, .inr (13, rg 81 x8_0)), (q10, .inr (13, rg 81 x11_0)), (q14, .inr (13, rg 81 x15_0)), (q17, .inl (ca 0, 3001, .inl f17)), (q19, .inl (ca 0, 3001, .inl f19)), (q140, .inl (ca 0, 8, .inl f140)), (q172, .inl (ca 0, 89, .inl f242))] H242 := hP242
  have hD242 : va_D A [(a0, .inr (14, rg 107 f171)), (q2, .inl (ca 2, 3000, .inl f2)), (q4, .inl (ca 2, 20, .inl f4)), (q6, .inl (ca 5, 2, .inr (.inr (.inr (.inr f12))))), (q7, .inr (13, rg 81 x8_0)), (q10, .inr (13, rg 81 x11_0)), (q14, .inr (13, rg 81 x15_0)), (q17, .inl (ca 0, 3001, .inl f17)), (q19, .inl (ca 0, 3001, .inl f19)), (q140, .inl (ca 0, 8, .inl f140)), (q172, .inl (ca 0, 89, .inl f242))] := hD242
  clear hP241 hD241 hS241 hF241
  refine lv_dup hx hb d_15_11_1205 rfl ?_
  refine lv_bipush (v := 70) hx hb d_15_11_1206 (by decide) ?_
  refine lv_sipush (v := 5894) hx hb d_15_11_1208 (by decide) ?_
  refine gast hx hb hK hP242 hD242 hS242 10 0 rfl rfl hF242 (k := 70) (by decide) (vinC (by decide)) d_15_11_1211 (L' := [(70, 5894), (69, 5358), (68, 4871), (67, 4428), (66, 4026), (65, 3660), (64, 3327), (63, 3024), (62, 2749), (61, 2499), (60, 2272), (59, 2066), (58, 1878), (57, 1707), (56, 1552), (55, 1411), (54, 1282), (53, 1166), (52, 1060), (51, 963), (50, 876), (49, 796), (48, 724), (47, 658), (46, 598), (45, 544), (44, 494), (43, 449), (42, 408), (41, 371), (40, 337), (39, 307), (38, 279), (37, 253), (36, 230), (35, 209), (34, 190), (33, 173), (32, 157), (31, 143), (30, 130), (29, 118), (28, 107), (27, 97), (26, 88), (25, 80), (24, 73), (23, 66), (22, 60), (21, 55), (20, 50), (19, 45), (18, 41), (17, 37), (16, 34), (15, 31), (14, 28), (13, 25), (12, 23), (11, 21), (10, 19), (9, 17), (8, 16), (7, 14), (6, 13), (5, 12), (4, 11), (3, 10), (2, 9), (1, 8), (0, 7)]) rfl (fun f243 H243 locs243 hF243 hP243 hD243 hS243 => ?_)
  have hP243 : va_P D cls [(a0, .inr (14, rg 107 f171)), (q2, .inl (ca 2, 3000, .inl f2)), (q4, .inl (ca 2, 20, .inl f4)), (q6, .inl (ca 5, 2, .inr (.inr (.inr (.inr f12))))), (q7, .inr (13, rg 81 x8_0)), (q10, .inr (13, rg 81 x11_0)), (q14, .inr (13, rg 81 x15_0)), (q17, .inl (ca 0, 3001, .inl f17)), (q19, .inl (ca 0, 3001, .inl f19)), (q140, .inl (ca 0, 8, .inl f140)), (q172, .inl (ca 0, 89, .inl f243))] H243 := hP243
  have hD243 : va_D A [(a0, .inr (14, rg 107 f171)), (q2, .inl (ca 2, 3000, .inl f2)), (q4, .inl (ca 2, 20, .inl f4)), (q6, .inl (ca 5, 2, .inr (.inr (.inr (.inr f12))))), (q7, .inr (13, rg 81 x8_0)), (q10, .inr (13, rg 81 x11_0)), (q14, .inr (13, rg 81 x15_0)), (q17, .inl (ca 0, 3001, .inl f17)), (q19, .inl (ca 0, 3001, .inl f19)), (q140, .inl (ca 0, 8, .inl f140)), (q172, .inl (ca 0, 89, .inl f243))] := hD243
  clear hP242 hD242 hS242 hF242
  refine lv_dup hx hb d_15_11_1212 rfl ?_
  refine lv_bipush (v := 71) hx hb d_15_11_1213 (by decide) ?_
  refine lv_sipush (v := 6484) hx hb d_15_11_1215 (by decide) ?_
  refine gast hx hb hK hP243 hD243 hS243 10 0 rfl rfl hF243 (k := 71) (by decide) (vinC (by decide)) d_15_11_1218 (L' := [(71, 6484), (70, 5894), (69, 5358), (68, 4871), (67, 4428), (66, 4026), (65, 3660), (64, 3327), (63, 3024), (62, 2749), (61, 2499), (60, 2272), (59, 2066), (58, 1878), (57, 1707), (56, 1552), (55, 1411), (54, 1282), (53, 1166), (52, 1060), (51, 963), (50, 876), (49, 796), (48, 724), (47, 658), (46, 598), (45, 544), (44, 494), (43, 449), (42, 408), (41, 371), (40, 337), (39, 307), (38, 279), (37, 253), (36, 230), (35, 209), (34, 190), (33, 173), (32, 157), (31, 143), (30, 130), (29, 118), (28, 107), (27, 97), (26, 88), (25, 80), (24, 73), (23, 66), (22, 60), (21, 55), (20, 50), (19, 45), (18, 41), (17, 37), (16, 34), (15, 31), (14, 28), (13, 25), (12, 23), (11, 21), (10, 19), (9, 17), (8, 16), (7, 14), (6, 13), (5, 12), (4, 11), (3, 10), (2, 9), (1, 8), (0, 7)]) rfl (fun f244 H244 locs244 hF244 hP244 hD244 hS244 => ?_)
  have hP244 : va_P D cls [(a0, .inr (14, rg 107 f171)), (q2, .inl (ca 2, 3000, .inl f2)), (q4, .inl (ca 2, 20, .inl f4)), (q6, .inl (ca 5, 2, .inr (.inr (.inr (.inr f12))))), (q7, .inr (13, rg 81 x8_0)), (q10, .inr (13, rg 81 x11_0)), (q14, .inr (13, rg 81 x15_0)), (q17, .inl (ca 0, 3001, .inl f17)), (q19, .inl (ca 0, 3001, .inl f19)), (q140, .inl (ca 0, 8, .inl f140)), (q172, .inl (ca 0, 89, .inl f244))] H244 := hP244
  have hD244 : va_D A [(a0, .inr (14, rg 107 f171)), (q2, .inl (ca 2, 3000, .inl f2)), (q4, .inl (ca 2, 20, .inl f4)), (q6, .inl (ca 5, 2, .inr (.inr (.inr (.inr f12))))), (q7, .inr (13, rg 81 x8_0)), (q10, .inr (13, rg 81 x11_0)), (q14, .inr (13, rg 81 x15_0)), (q17, .inl (ca 0, 3001, .inl f17)), (q19, .inl (ca 0, 3001, .inl f19)), (q140, .inl (ca 0, 8, .inl f140)), (q172, .inl (ca 0, 89, .inl f244))] := hD244
  clear hP243 hD243 hS243 hF243
  refine lv_dup hx hb d_15_11_1219 rfl ?_
  refine lv_bipush (v := 72) hx hb d_15_11_1220 (by decide) ?_
  refine lv_sipush (v := 7132) hx hb d_15_11_1222 (by decide) ?_
  refine gast hx hb hK hP244 hD244 hS244 10 0 rfl rfl hF244 (k := 72) (by decide) (vinC (by decide)) d_15_11_1225 (L' := [(72, 7132), (71, 6484), (70, 5894), (69, 5358), (68, 4871), (67, 4428), (66, 4026), (65, 3660), (64, 3327), (63, 3024), (62, 2749), (61, 2499), (60, 2272), (59, 2066), (58, 1878), (57, 1707), (56, 1552), (55, 1411), (54, 1282), (53, 1166), (52, 1060), (51, 963), (50, 876), (49, 796), (48, 724), (47, 658), (46, 598), (45, 544), (44, 494), (43, 449), (42, 408), (41, 371), (40, 337), (39, 307), (38, 279), (37, 253), (36, 230), (35, 209), (34, 190), (33, 173), (32, 157), (31, 143), (30, 130), (29, 118), (28, 107), (27, 97), (26, 88), (25, 80), (24, 73), (23, 66), (22, 60), (21, 55), (20, 50), (19, 45), (18, 41), (17, 37), (16, 34), (15, 31), (14, 28), (13, 25), (12, 23), (11, 21), (10, 19), (9, 17), (8, 16), (7, 14), (6, 13), (5, 12), (4, 11), (3, 10), (2, 9), (1, 8), (0, 7)]) rfl (fun f245 H245 locs245 hF245 hP245 hD245 hS245 => ?_)
  have hP245 : va_P D cls [(a0, .inr (14, rg 107 f171)), (q2, .inl (ca 2, 3000, .inl f2)), (q4, .inl (ca 2, 20, .inl f4)), (q6, .inl (ca 5, 2, .inr (.inr (.inr (.inr f12))))), (q7, .inr (13, rg 81 x8_0)), (q10, .inr (13, rg 81 x11_0)), (q14, .inr (13, rg 81 x15_0)), (q17, .inl (ca 0, 3001, .inl f17)), (q19, .inl (ca 0, 3001, .inl f19)), (q140, .inl (ca 0, 8, .inl f140)), (q172, .inl (ca 0, 89, .inl f245))] H245 := hP245
  have hD245 : va_D A [(a0, .inr (14, rg 107 f171)), (q2, .inl (ca 2, 3000, .inl f2)), (q4, .inl (ca 2, 20, .inl f4)), (q6, .inl (ca 5, 2, .inr (.inr (.inr (.inr f12))))), (q7, .inr (13, rg 81 x8_0)), (q10, .inr (13, rg 81 x11_0)), (q14, .inr (13, rg 81 x15_0)), (q17, .inl (ca 0, 3001, .inl f17)), (q19, .inl (ca 0, 3001, .inl f19)), (q140, .inl (ca 0, 8, .inl f140)), (q172, .inl (ca 0, 89, .inl f245))] := hD245
  clear hP244 hD244 hS244 hF244
  refine lv_dup hx hb d_15_11_1226 rfl ?_
  refine lv_bipush (v := 73) hx hb d_15_11_1227 (by decide) ?_
  refine lv_sipush (v := 7845) hx hb d_15_11_1229 (by decide) ?_
  refine gast hx hb hK hP245 hD245 hS245 10 0 rfl rfl hF245 (k := 73) (by decide) (vinC (by decide)) d_15_11_1232 (L' := [(73, 7845), (72, 7132), (71, 6484), (70, 5894), (69, 5358), (68, 4871), (67, 4428), (66, 4026), (65, 3660), (64, 3327), (63, 3024), (62, 2749), (61, 2499), (60, 2272), (59, 2066), (58, 1878), (57, 1707), (56, 1552), (55, 1411), (54, 1282), (53, 1166), (52, 1060), (51, 963), (50, 876), (49, 796), (48, 724), (47, 658), (46, 598), (45, 544), (44, 494), (43, 449), (42, 408), (41, 371), (40, 337), (39, 307), (38, 279), (37, 253), (36, 230), (35, 209), (34, 190), (33, 173), (32, 157), (31, 143), (30, 130), (29, 118), (28, 107), (27, 97), (26, 88), (25, 80), (24, 73), (23, 66), (22, 60), (21, 55), (20, 50), (19, 45), (18, 41), (17, 37), (16, 34), (15, 31), (14, 28), (13, 25), (12, 23), (11, 21), (10, 19), (9, 17), (8, 16), (7, 14), (6, 13), (5, 12), (4, 11), (3, 10), (2, 9), (1, 8), (0, 7)]) rfl (fun f246 H246 locs246 hF246 hP246 hD246 hS246 => ?_)
  have hP246 : va_P D cls [(a0, .inr (14, rg 107 f171)), (q2, .inl (ca 2, 3000, .inl f2)), (q4, .inl (ca 2, 20, .inl f4)), (q6, .inl (ca 5, 2, .inr (.inr (.inr (.inr f12))))), (q7, .inr (13, rg 81 x8_0)), (q10, .inr (13, rg 81 x11_0)), (q14, .inr (13, rg 81 x15_0)), (q17, .inl (ca 0, 3001, .inl f17)), (q19, .inl (ca 0, 3001, .inl f19)), (q140, .inl (ca 0, 8, .inl f140)), (q172, .inl (ca 0, 89, .inl f246))] H246 := hP246
  have hD246 : va_D A [(a0, .inr (14, rg 107 f171)), (q2, .inl (ca 2, 3000, .inl f2)), (q4, .inl (ca 2, 20, .inl f4)), (q6, .inl (ca 5, 2, .inr (.inr (.inr (.inr f12))))), (q7, .inr (13, rg 81 x8_0)), (q10, .inr (13, rg 81 x11_0)), (q14, .inr (13, rg 81 x15_0)), (q17, .inl (ca 0, 3001, .inl f17)), (q19, .inl (ca 0, 3001, .inl f19)), (q140, .inl (ca 0, 8, .inl f140)), (q172, .inl (ca 0, 89, .inl f246))] := hD246
  clear hP245 hD245 hS245 hF245
  refine lv_dup hx hb d_15_11_1233 rfl ?_
  refine lv_bipush (v := 74) hx hb d_15_11_1234 (by decide) ?_
  refine lv_sipush (v := 8630) hx hb d_15_11_1236 (by decide) ?_
  refine gast hx hb hK hP246 hD246 hS246 10 0 rfl rfl hF246 (k := 74) (by decide) (vinC (by decide)) d_15_11_1239 (L' := [(74, 8630), (73, 7845), (72, 7132), (71, 6484), (70, 5894), (69, 5358), (68, 4871), (67, 4428), (66, 4026), (65, 3660), (64, 3327), (63, 3024), (62, 2749), (61, 2499), (60, 2272), (59, 2066), (58, 1878), (57, 1707), (56, 1552), (55, 1411), (54, 1282), (53, 1166), (52, 1060), (51, 963), (50, 876), (49, 796), (48, 724), (47, 658), (46, 598), (45, 544), (44, 494), (43, 449), (42, 408), (41, 371), (40, 337), (39, 307), (38, 279), (37, 253), (36, 230), (35, 209), (34, 190), (33, 173), (32, 157), (31, 143), (30, 130), (29, 118), (28, 107), (27, 97), (26, 88), (25, 80), (24, 73), (23, 66), (22, 60), (21, 55), (20, 50), (19, 45), (18, 41), (17, 37), (16, 34), (15, 31), (14, 28), (13, 25), (12, 23), (11, 21), (10, 19), (9, 17), (8, 16), (7, 14), (6, 13), (5, 12), (4, 11), (3, 10), (2, 9), (1, 8), (0, 7)]) rfl (fun f247 H247 locs247 hF247 hP247 hD247 hS247 => ?_)
  have hP247 : va_P D cls [(a0, .inr (14, rg 107 f171)), (q2, .inl (ca 2, 3000, .inl f2)), (q4, .inl (ca 2, 20, .inl f4)), (q6, .inl (ca 5, 2, .inr (.inr (.inr (.inr f12))))), (q7, .inr (13, rg 81 x8_0)), (q10, .inr (13, rg 81 x11_0)), (q14, .inr (13, rg 81 x15_0)), (q17, .inl (ca 0, 3001, .inl f17)), (q19, .inl (ca 0, 3001, .inl f19)), (q140, .inl (ca 0, 8, .inl f140)), (q172, .inl (ca 0, 89, .inl f247))] H247 := hP247
  have hD247 : va_D A [(a0, .inr (14, rg 107 f171)), (q2, .inl (ca 2, 3000, .inl f2)), (q4, .inl (ca 2, 20, .inl f4)), (q6, .inl (ca 5, 2, .inr (.inr (.inr (.inr f12))))), (q7, .inr (13, rg 81 x8_0)), (q10, .inr (13, rg 81 x11_0)), (q14, .inr (13, rg 81 x15_0)), (q17, .inl (ca 0, 3001, .inl f17)), (q19, .inl (ca 0, 3001, .inl f19)), (q140, .inl (ca 0, 8, .inl f140)), (q172, .inl (ca 0, 89, .inl f247))] := hD247
  clear hP246 hD246 hS246 hF246
  refine lv_dup hx hb d_15_11_1240 rfl ?_
  refine lv_bipush (v := 75) hx hb d_15_11_1241 (by decide) ?_
  refine lv_sipush (v := 9493) hx hb d_15_11_1243 (by decide) ?_
  refine gast hx hb hK hP247 hD247 hS247 10 0 rfl rfl hF247 (k := 75) (by decide) (vinC (by decide)) d_15_11_1246 (L' := [(75, 9493), (74, 8630), (73, 7845), (72, 7132), (71, 6484), (70, 5894), (69, 5358), (68, 4871), (67, 4428), (66, 4026), (65, 3660), (64, 3327), (63, 3024), (62, 2749), (61, 2499), (60, 2272), (59, 2066), (58, 1878), (57, 1707), (56, 1552), (55, 1411), (54, 1282), (53, 1166), (52, 1060), (51, 963), (50, 876), (49, 796), (48, 724), (47, 658), (46, 598), (45, 544), (44, 494), (43, 449), (42, 408), (41, 371), (40, 337), (39, 307), (38, 279), (37, 253), (36, 230), (35, 209), (34, 190), (33, 173), (32, 157), (31, 143), (30, 130), (29, 118), (28, 107), (27, 97), (26, 88), (25, 80), (24, 73), (23, 66), (22, 60), (21, 55), (20, 50), (19, 45), (18, 41), (17, 37), (16, 34), (15, 31), (14, 28), (13, 25), (12, 23), (11, 21), (10, 19), (9, 17), (8, 16), (7, 14), (6, 13), (5, 12), (4, 11), (3, 10), (2, 9), (1, 8), (0, 7)]) rfl (fun f248 H248 locs248 hF248 hP248 hD248 hS248 => ?_)
  have hP248 : va_P D cls [(a0, .inr (14, rg 107 f171)), (q2, .inl (ca 2, 3000, .inl f2)), (q4, .inl (ca 2, 20, .inl f4)), (q6, .inl (ca 5, 2, .inr (.inr (.inr (.inr f12))))), (q7, .inr (13, rg 81 x8_0)), (q10, .inr (13, rg 81 x11_0)), (q14, .inr (13, rg 81 x15_0)), (q17, .inl (ca 0, 3001, .inl f17)), (q19, .inl (ca 0, 3001, .inl f19)), (q140, .inl (ca 0, 8, .inl f140)), (q172, .inl (ca 0, 89, .inl f248))] H248 := hP248
  have hD248 : va_D A [(a0, .inr (14, rg 107 f171)), (q2, .inl (ca 2, 3000, .inl f2)), (q4, .inl (ca 2, 20, .inl f4)), (q6, .inl (ca 5, 2, .inr (.inr (.inr (.inr f12))))), (q7, .inr (13, rg 81 x8_0)), (q10, .inr (13, rg 81 x11_0)), (q14, .inr (13, rg 81 x15_0)), (q17, .inl (ca 0, 3001, .inl f17)), (q19, .inl (ca 0, 3001, .inl f19)), (q140, .inl (ca 0, 8, .inl f140)), (q172, .inl (ca 0, 89, .inl f248))] := hD248
  clear hP247 hD247 hS247 hF247
  refine lv_dup hx hb d_15_11_1247 rfl ?_
  refine lv_bipush (v := 76) hx hb d_15_11_1248 (by decide) ?_
  refine lv_sipush (v := 10442) hx hb d_15_11_1250 (by decide) ?_
  refine gast hx hb hK hP248 hD248 hS248 10 0 rfl rfl hF248 (k := 76) (by decide) (vinC (by decide)) d_15_11_1253 (L' := [(76, 10442), (75, 9493), (74, 8630), (73, 7845), (72, 7132), (71, 6484), (70, 5894), (69, 5358), (68, 4871), (67, 4428), (66, 4026), (65, 3660), (64, 3327), (63, 3024), (62, 2749), (61, 2499), (60, 2272), (59, 2066), (58, 1878), (57, 1707), (56, 1552), (55, 1411), (54, 1282), (53, 1166), (52, 1060), (51, 963), (50, 876), (49, 796), (48, 724), (47, 658), (46, 598), (45, 544), (44, 494), (43, 449), (42, 408), (41, 371), (40, 337), (39, 307), (38, 279), (37, 253), (36, 230), (35, 209), (34, 190), (33, 173), (32, 157), (31, 143), (30, 130), (29, 118), (28, 107), (27, 97), (26, 88), (25, 80), (24, 73), (23, 66), (22, 60), (21, 55), (20, 50), (19, 45), (18, 41), (17, 37), (16, 34), (15, 31), (14, 28), (13, 25), (12, 23), (11, 21), (10, 19), (9, 17), (8, 16), (7, 14), (6, 13), (5, 12), (4, 11), (3, 10), (2, 9), (1, 8), (0, 7)]) rfl (fun f249 H249 locs249 hF249 hP249 hD249 hS249 => ?_)
  have hP249 : va_P D cls [(a0, .inr (14, rg 107 f171)), (q2, .inl (ca 2, 3000, .inl f2)), (q4, .inl (ca 2, 20, .inl f4)), (q6, .inl (ca 5, 2, .inr (.inr (.inr (.inr f12))))), (q7, .inr (13, rg 81 x8_0)), (q10, .inr (13, rg 81 x11_0)), (q14, .inr (13, rg 81 x15_0)), (q17, .inl (ca 0, 3001, .inl f17)), (q19, .inl (ca 0, 3001, .inl f19)), (q140, .inl (ca 0, 8, .inl f140)), (q172, .inl (ca 0, 89, .inl f249))] H249 := hP249
  have hD249 : va_D A [(a0, .inr (14, rg 107 f171)), (q2, .inl (ca 2, 3000, .inl f2)), (q4, .inl (ca 2, 20, .inl f4)), (q6, .inl (ca 5, 2, .inr (.inr (.inr (.inr f12))))), (q7, .inr (13, rg 81 x8_0)), (q10, .inr (13, rg 81 x11_0)), (q14, .inr (13, rg 81 x15_0)), (q17, .inl (ca 0, 3001, .inl f17)), (q19, .inl (ca 0, 3001, .inl f19)), (q140, .inl (ca 0, 8, .inl f140)), (q172, .inl (ca 0, 89, .inl f249))] := hD249
  clear hP248 hD248 hS248 hF248
  refine lv_dup hx hb d_15_11_1254 rfl ?_
  refine lv_bipush (v := 77) hx hb d_15_11_1255 (by decide) ?_
  refine lv_sipush (v := 11487) hx hb d_15_11_1257 (by decide) ?_
  refine gast hx hb hK hP249 hD249 hS249 10 0 rfl rfl hF249 (k := 77) (by decide) (vinC (by decide)) d_15_11_1260 (L' := [(77, 11487), (76, 10442), (75, 9493), (74, 8630), (73, 7845), (72, 7132), (71, 6484), (70, 5894), (69, 5358), (68, 4871), (67, 4428), (66, 4026), (65, 3660), (64, 3327), (63, 3024), (62, 2749), (61, 2499), (60, 2272), (59, 2066), (58, 1878), (57, 1707), (56, 1552), (55, 1411), (54, 1282), (53, 1166), (52, 1060), (51, 963), (50, 876), (49, 796), (48, 724), (47, 658), (46, 598), (45, 544), (44, 494), (43, 449), (42, 408), (41, 371), (40, 337), (39, 307), (38, 279), (37, 253), (36, 230), (35, 209), (34, 190), (33, 173), (32, 157), (31, 143), (30, 130), (29, 118), (28, 107), (27, 97), (26, 88), (25, 80), (24, 73), (23, 66), (22, 60), (21, 55), (20, 50), (19, 45), (18, 41), (17, 37), (16, 34), (15, 31), (14, 28), (13, 25), (12, 23), (11, 21), (10, 19), (9, 17), (8, 16), (7, 14), (6, 13), (5, 12), (4, 11), (3, 10), (2, 9), (1, 8), (0, 7)]) rfl (fun f250 H250 locs250 hF250 hP250 hD250 hS250 => ?_)
  have hP250 : va_P D cls [(a0, .inr (14, rg 107 f171)), (q2, .inl (ca 2, 3000, .inl f2)), (q4, .inl (ca 2, 20, .inl f4)), (q6, .inl (ca 5, 2, .inr (.inr (.inr (.inr f12))))), (q7, .inr (13, rg 81 x8_0)), (q10, .inr (13, rg 81 x11_0)), (q14, .inr (13, rg 81 x15_0)), (q17, .inl (ca 0, 3001, .inl f17)), (q19, .inl (ca 0, 3001, .inl f19)), (q140, .inl (ca 0, 8, .inl f140)), (q172, .inl (ca 0, 89, .inl f250))] H250 := hP250
  have hD250 : va_D A [(a0, .inr (14, rg 107 f171)), (q2, .inl (ca 2, 3000, .inl f2)), (q4, .inl (ca 2, 20, .inl f4)), (q6, .inl (ca 5, 2, .inr (.inr (.inr (.inr f12))))), (q7, .inr (13, rg 81 x8_0)), (q10, .inr (13, rg 81 x11_0)), (q14, .inr (13, rg 81 x15_0)), (q17, .inl (ca 0, 3001, .inl f17)), (q19, .inl (ca 0, 3001, .inl f19)), (q140, .inl (ca 0, 8, .inl f140)), (q172, .inl (ca 0, 89, .inl f250))] := hD250
  clear hP249 hD249 hS249 hF249
  refine lv_dup hx hb d_15_11_1261 rfl ?_
  refine lv_bipush (v := 78) hx hb d_15_11_1262 (by decide) ?_
  refine lv_sipush (v := 12635) hx hb d_15_11_1264 (by decide) ?_
  refine gast hx hb hK hP250 hD250 hS250 10 0 rfl rfl hF250 (k := 78) (by decide) (vinC (by decide)) d_15_11_1267 (L' := [(78, 12635), (77, 11487), (76, 10442), (75, 9493), (74, 8630), (73, 7845), (72, 7132), (71, 6484), (70, 5894), (69, 5358), (68, 4871), (67, 4428), (66, 4026), (65, 3660), (64, 3327), (63, 3024), (62, 2749), (61, 2499), (60, 2272), (59, 2066), (58, 1878), (57, 1707), (56, 1552), (55, 1411), (54, 1282), (53, 1166), (52, 1060), (51, 963), (50, 876), (49, 796), (48, 724), (47, 658), (46, 598), (45, 544), (44, 494), (43, 449), (42, 408), (41, 371), (40, 337), (39, 307), (38, 279), (37, 253), (36, 230), (35, 209), (34, 190), (33, 173), (32, 157), (31, 143), (30, 130), (29, 118), (28, 107), (27, 97), (26, 88), (25, 80), (24, 73), (23, 66), (22, 60), (21, 55), (20, 50), (19, 45), (18, 41), (17, 37), (16, 34), (15, 31), (14, 28), (13, 25), (12, 23), (11, 21), (10, 19), (9, 17), (8, 16), (7, 14), (6, 13), (5, 12), (4, 11), (3, 10), (2, 9), (1, 8), (0, 7)]) rfl (fun f251 H251 locs251 hF251 hP251 hD251 hS251 => ?_)
  have hP251 : va_P D cls [(a0, .inr (14, rg 107 f171)), (q2, .inl (ca 2, 3000, .inl f2)), (q4, .inl (ca 2, 20, .inl f4)), (q6, .inl (ca 5, 2, .inr (.inr (.inr (.inr f12))))), (q7, .inr (13, rg 81 x8_0)), (q10, .inr (13, rg 81 x11_0)), (q14, .inr (13, rg 81 x15_0)), (q17, .inl (ca 0, 3001, .inl f17)), (q19, .inl (ca 0, 3001, .inl f19)), (q140, .inl (ca 0, 8, .inl f140)), (q172, .inl (ca 0, 89, .inl f251))] H251 := hP251
  have hD251 : va_D A [(a0, .inr (14, rg 107 f171)), (q2, .inl (ca 2, 3000, .inl f2)), (q4, .inl (ca 2, 20, .inl f4)), (q6, .inl (ca 5, 2, .inr (.inr (.inr (.inr f12))))), (q7, .inr (13, rg 81 x8_0)), (q10, .inr (13, rg 81 x11_0)), (q14, .inr (13, rg 81 x15_0)), (q17, .inl (ca 0, 3001, .inl f17)), (q19, .inl (ca 0, 3001, .inl f19)), (q140, .inl (ca 0, 8, .inl f140)), (q172, .inl (ca 0, 89, .inl f251))] := hD251
  clear hP250 hD250 hS250 hF250
  refine lv_dup hx hb d_15_11_1268 rfl ?_
  refine lv_bipush (v := 79) hx hb d_15_11_1269 (by decide) ?_
  refine lv_sipush (v := 13899) hx hb d_15_11_1271 (by decide) ?_
  refine gast hx hb hK hP251 hD251 hS251 10 0 rfl rfl hF251 (k := 79) (by decide) (vinC (by decide)) d_15_11_1274 (L' := [(79, 13899), (78, 12635), (77, 11487), (76, 10442), (75, 9493), (74, 8630), (73, 7845), (72, 7132), (71, 6484), (70, 5894), (69, 5358), (68, 4871), (67, 4428), (66, 4026), (65, 3660), (64, 3327), (63, 3024), (62, 2749), (61, 2499), (60, 2272), (59, 2066), (58, 1878), (57, 1707), (56, 1552), (55, 1411), (54, 1282), (53, 1166), (52, 1060), (51, 963), (50, 876), (49, 796), (48, 724), (47, 658), (46, 598), (45, 544), (44, 494), (43, 449), (42, 408), (41, 371), (40, 337), (39, 307), (38, 279), (37, 253), (36, 230), (35, 209), (34, 190), (33, 173), (32, 157), (31, 143), (30, 130), (29, 118), (28, 107), (27, 97), (26, 88), (25, 80), (24, 73), (23, 66), (22, 60), (21, 55), (20, 50), (19, 45), (18, 41), (17, 37), (16, 34), (15, 31), (14, 28), (13, 25), (12, 23), (11, 21), (10, 19), (9, 17), (8, 16), (7, 14), (6, 13), (5, 12), (4, 11), (3, 10), (2, 9), (1, 8), (0, 7)]) rfl (fun f252 H252 locs252 hF252 hP252 hD252 hS252 => ?_)
  have hP252 : va_P D cls [(a0, .inr (14, rg 107 f171)), (q2, .inl (ca 2, 3000, .inl f2)), (q4, .inl (ca 2, 20, .inl f4)), (q6, .inl (ca 5, 2, .inr (.inr (.inr (.inr f12))))), (q7, .inr (13, rg 81 x8_0)), (q10, .inr (13, rg 81 x11_0)), (q14, .inr (13, rg 81 x15_0)), (q17, .inl (ca 0, 3001, .inl f17)), (q19, .inl (ca 0, 3001, .inl f19)), (q140, .inl (ca 0, 8, .inl f140)), (q172, .inl (ca 0, 89, .inl f252))] H252 := hP252
  have hD252 : va_D A [(a0, .inr (14, rg 107 f171)), (q2, .inl (ca 2, 3000, .inl f2)), (q4, .inl (ca 2, 20, .inl f4)), (q6, .inl (ca 5, 2, .inr (.inr (.inr (.inr f12))))), (q7, .inr (13, rg 81 x8_0)), (q10, .inr (13, rg 81 x11_0)), (q14, .inr (13, rg 81 x15_0)), (q17, .inl (ca 0, 3001, .inl f17)), (q19, .inl (ca 0, 3001, .inl f19)), (q140, .inl (ca 0, 8, .inl f140)), (q172, .inl (ca 0, 89, .inl f252))] := hD252
  clear hP251 hD251 hS251 hF251
  refine lv_dup hx hb d_15_11_1275 rfl ?_
  refine lv_bipush (v := 80) hx hb d_15_11_1276 (by decide) ?_
  refine lv_sipush (v := 15289) hx hb d_15_11_1278 (by decide) ?_
  refine gast hx hb hK hP252 hD252 hS252 10 0 rfl rfl hF252 (k := 80) (by decide) (vinC (by decide)) d_15_11_1281 (L' := [(80, 15289), (79, 13899), (78, 12635), (77, 11487), (76, 10442), (75, 9493), (74, 8630), (73, 7845), (72, 7132), (71, 6484), (70, 5894), (69, 5358), (68, 4871), (67, 4428), (66, 4026), (65, 3660), (64, 3327), (63, 3024), (62, 2749), (61, 2499), (60, 2272), (59, 2066), (58, 1878), (57, 1707), (56, 1552), (55, 1411), (54, 1282), (53, 1166), (52, 1060), (51, 963), (50, 876), (49, 796), (48, 724), (47, 658), (46, 598), (45, 544), (44, 494), (43, 449), (42, 408), (41, 371), (40, 337), (39, 307), (38, 279), (37, 253), (36, 230), (35, 209), (34, 190), (33, 173), (32, 157), (31, 143), (30, 130), (29, 118), (28, 107), (27, 97), (26, 88), (25, 80), (24, 73), (23, 66), (22, 60), (21, 55), (20, 50), (19, 45), (18, 41), (17, 37), (16, 34), (15, 31), (14, 28), (13, 25), (12, 23), (11, 21), (10, 19), (9, 17), (8, 16), (7, 14), (6, 13), (5, 12), (4, 11), (3, 10), (2, 9), (1, 8), (0, 7)]) rfl (fun f253 H253 locs253 hF253 hP253 hD253 hS253 => ?_)
  have hP253 : va_P D cls [(a0, .inr (14, rg 107 f171)), (q2, .inl (ca 2, 3000, .inl f2)), (q4, .inl (ca 2, 20, .inl f4)), (q6, .inl (ca 5, 2, .inr (.inr (.inr (.inr f12))))), (q7, .inr (13, rg 81 x8_0)), (q10, .inr (13, rg 81 x11_0)), (q14, .inr (13, rg 81 x15_0)), (q17, .inl (ca 0, 3001, .inl f17)), (q19, .inl (ca 0, 3001, .inl f19)), (q140, .inl (ca 0, 8, .inl f140)), (q172, .inl (ca 0, 89, .inl f253))] H253 := hP253
  have hD253 : va_D A [(a0, .inr (14, rg 107 f171)), (q2, .inl (ca 2, 3000, .inl f2)), (q4, .inl (ca 2, 20, .inl f4)), (q6, .inl (ca 5, 2, .inr (.inr (.inr (.inr f12))))), (q7, .inr (13, rg 81 x8_0)), (q10, .inr (13, rg 81 x11_0)), (q14, .inr (13, rg 81 x15_0)), (q17, .inl (ca 0, 3001, .inl f17)), (q19, .inl (ca 0, 3001, .inl f19)), (q140, .inl (ca 0, 8, .inl f140)), (q172, .inl (ca 0, 89, .inl f253))] := hD253
  clear hP252 hD252 hS252 hF252
  refine lv_dup hx hb d_15_11_1282 rfl ?_
  refine lv_bipush (v := 81) hx hb d_15_11_1283 (by decide) ?_
  refine lv_sipush (v := 16818) hx hb d_15_11_1285 (by decide) ?_
  refine gast hx hb hK hP253 hD253 hS253 10 0 rfl rfl hF253 (k := 81) (by decide) (vinC (by decide)) d_15_11_1288 (L' := [(81, 16818), (80, 15289), (79, 13899), (78, 12635), (77, 11487), (76, 10442), (75, 9493), (74, 8630), (73, 7845), (72, 7132), (71, 6484), (70, 5894), (69, 5358), (68, 4871), (67, 4428), (66, 4026), (65, 3660), (64, 3327), (63, 3024), (62, 2749), (61, 2499), (60, 2272), (59, 2066), (58, 1878), (57, 1707), (56, 1552), (55, 1411), (54, 1282), (53, 1166), (52, 1060), (51, 963), (50, 876), (49, 796), (48, 724), (47, 658), (46, 598), (45, 544), (44, 494), (43, 449), (42, 408), (41, 371), (40, 337), (39, 307), (38, 279), (37, 253), (36, 230), (35, 209), (34, 190), (33, 173), (32, 157), (31, 143), (30, 130), (29, 118), (28, 107), (27, 97), (26, 88), (25, 80), (24, 73), (23, 66), (22, 60), (21, 55), (20, 50), (19, 45), (18, 41), (17, 37), (16, 34), (15, 31), (14, 28), (13, 25), (12, 23), (11, 21), (10, 19), (9, 17), (8, 16), (7, 14), (6, 13), (5, 12), (4, 11), (3, 10), (2, 9), (1, 8), (0, 7)]) rfl (fun f254 H254 locs254 hF254 hP254 hD254 hS254 => ?_)
  have hP254 : va_P D cls [(a0, .inr (14, rg 107 f171)), (q2, .inl (ca 2, 3000, .inl f2)), (q4, .inl (ca 2, 20, .inl f4)), (q6, .inl (ca 5, 2, .inr (.inr (.inr (.inr f12))))), (q7, .inr (13, rg 81 x8_0)), (q10, .inr (13, rg 81 x11_0)), (q14, .inr (13, rg 81 x15_0)), (q17, .inl (ca 0, 3001, .inl f17)), (q19, .inl (ca 0, 3001, .inl f19)), (q140, .inl (ca 0, 8, .inl f140)), (q172, .inl (ca 0, 89, .inl f254))] H254 := hP254
  have hD254 : va_D A [(a0, .inr (14, rg 107 f171)), (q2, .inl (ca 2, 3000, .inl f2)), (q4, .inl (ca 2, 20, .inl f4)), (q6, .inl (ca 5, 2, .inr (.inr (.inr (.inr f12))))), (q7, .inr (13, rg 81 x8_0)), (q10, .inr (13, rg 81 x11_0)), (q14, .inr (13, rg 81 x15_0)), (q17, .inl (ca 0, 3001, .inl f17)), (q19, .inl (ca 0, 3001, .inl f19)), (q140, .inl (ca 0, 8, .inl f140)), (q172, .inl (ca 0, 89, .inl f254))] := hD254
  clear hP253 hD253 hS253 hF253
  refine lv_dup hx hb d_15_11_1289 rfl ?_
  refine lv_bipush (v := 82) hx hb d_15_11_1290 (by decide) ?_
  refine lv_sipush (v := 18500) hx hb d_15_11_1292 (by decide) ?_
  refine gast hx hb hK hP254 hD254 hS254 10 0 rfl rfl hF254 (k := 82) (by decide) (vinC (by decide)) d_15_11_1295 (L' := [(82, 18500), (81, 16818), (80, 15289), (79, 13899), (78, 12635), (77, 11487), (76, 10442), (75, 9493), (74, 8630), (73, 7845), (72, 7132), (71, 6484), (70, 5894), (69, 5358), (68, 4871), (67, 4428), (66, 4026), (65, 3660), (64, 3327), (63, 3024), (62, 2749), (61, 2499), (60, 2272), (59, 2066), (58, 1878), (57, 1707), (56, 1552), (55, 1411), (54, 1282), (53, 1166), (52, 1060), (51, 963), (50, 876), (49, 796), (48, 724), (47, 658), (46, 598), (45, 544), (44, 494), (43, 449), (42, 408), (41, 371), (40, 337), (39, 307), (38, 279), (37, 253), (36, 230), (35, 209), (34, 190), (33, 173), (32, 157), (31, 143), (30, 130), (29, 118), (28, 107), (27, 97), (26, 88), (25, 80), (24, 73), (23, 66), (22, 60), (21, 55), (20, 50), (19, 45), (18, 41), (17, 37), (16, 34), (15, 31), (14, 28), (13, 25), (12, 23), (11, 21), (10, 19), (9, 17), (8, 16), (7, 14), (6, 13), (5, 12), (4, 11), (3, 10), (2, 9), (1, 8), (0, 7)]) rfl (fun f255 H255 locs255 hF255 hP255 hD255 hS255 => ?_)
  have hP255 : va_P D cls [(a0, .inr (14, rg 107 f171)), (q2, .inl (ca 2, 3000, .inl f2)), (q4, .inl (ca 2, 20, .inl f4)), (q6, .inl (ca 5, 2, .inr (.inr (.inr (.inr f12))))), (q7, .inr (13, rg 81 x8_0)), (q10, .inr (13, rg 81 x11_0)), (q14, .inr (13, rg 81 x15_0)), (q17, .inl (ca 0, 3001, .inl f17)), (q19, .inl (ca 0, 3001, .inl f19)), (q140, .inl (ca 0, 8, .inl f140)), (q172, .inl (ca 0, 89, .inl f255))] H255 := hP255
  have hD255 : va_D A [(a0, .inr (14, rg 107 f171)), (q2, .inl (ca 2, 3000, .inl f2)), (q4, .inl (ca 2, 20, .inl f4)), (q6, .inl (ca 5, 2, .inr (.inr (.inr (.inr f12))))), (q7, .inr (13, rg 81 x8_0)), (q10, .inr (13, rg 81 x11_0)), (q14, .inr (13, rg 81 x15_0)), (q17, .inl (ca 0, 3001, .inl f17)), (q19, .inl (ca 0, 3001, .inl f19)), (q140, .inl (ca 0, 8, .inl f140)), (q172, .inl (ca 0, 89, .inl f255))] := hD255
  clear hP254 hD254 hS254 hF254
  refine lv_dup hx hb d_15_11_1296 rfl ?_
  refine lv_bipush (v := 83) hx hb d_15_11_1297 (by decide) ?_
  refine lv_sipush (v := 20350) hx hb d_15_11_1299 (by decide) ?_
  refine gast hx hb hK hP255 hD255 hS255 10 0 rfl rfl hF255 (k := 83) (by decide) (vinC (by decide)) d_15_11_1302 (L' := [(83, 20350), (82, 18500), (81, 16818), (80, 15289), (79, 13899), (78, 12635), (77, 11487), (76, 10442), (75, 9493), (74, 8630), (73, 7845), (72, 7132), (71, 6484), (70, 5894), (69, 5358), (68, 4871), (67, 4428), (66, 4026), (65, 3660), (64, 3327), (63, 3024), (62, 2749), (61, 2499), (60, 2272), (59, 2066), (58, 1878), (57, 1707), (56, 1552), (55, 1411), (54, 1282), (53, 1166), (52, 1060), (51, 963), (50, 876), (49, 796), (48, 724), (47, 658), (46, 598), (45, 544), (44, 494), (43, 449), (42, 408), (41, 371), (40, 337), (39, 307), (38, 279), (37, 253), (36, 230), (35, 209), (34, 190), (33, 173), (32, 157), (31, 143), (30, 130), (29, 118), (28, 107), (27, 97), (26, 88), (25, 80), (24, 73), (23, 66), (22, 60), (21, 55), (20, 50), (19, 45), (18, 41), (17, 37), (16, 34), (15, 31), (14, 28), (13, 25), (12, 23), (11, 21), (10, 19), (9, 17), (8, 16), (7, 14), (6, 13), (5, 12), (4, 11), (3, 10), (2, 9), (1, 8), (0, 7)]) rfl (fun f256 H256 locs256 hF256 hP256 hD256 hS256 => ?_)
  have hP256 : va_P D cls [(a0, .inr (14, rg 107 f171)), (q2, .inl (ca 2, 3000, .inl f2)), (q4, .inl (ca 2, 20, .inl f4)), (q6, .inl (ca 5, 2, .inr (.inr (.inr (.inr f12))))), (q7, .inr (13, rg 81 x8_0)), (q10, .inr (13, rg 81 x11_0)), (q14, .inr (13, rg 81 x15_0)), (q17, .inl (ca 0, 3001, .inl f17)), (q19, .inl (ca 0, 3001, .inl f19)), (q140, .inl (ca 0, 8, .inl f140)), (q172, .inl (ca 0, 89, .inl f256))] H256 := hP256
  have hD256 : va_D A [(a0, .inr (14, rg 107 f171)), (q2, .inl (ca 2, 3000, .inl f2)), (q4, .inl (ca 2, 20, .inl f4)), (q6, .inl (ca 5, 2, .inr (.inr (.inr (.inr f12))))), (q7, .inr (13, rg 81 x8_0)), (q10, .inr (13, rg 81 x11_0)), (q14, .inr (13, rg 81 x15_0)), (q17, .inl (ca 0, 3001, .inl f17)), (q19, .inl (ca 0, 3001, .inl f19)), (q140, .inl (ca 0, 8, .inl f140)), (q172, .inl (ca 0, 89, .inl f256))] := hD256
  clear hP255 hD255 hS255 hF255
  refine lv_dup hx hb d_15_11_1303 rfl ?_
  refine lv_bipush (v := 84) hx hb d_15_11_1304 (by decide) ?_
  refine lv_sipush (v := 22385) hx hb d_15_11_1306 (by decide) ?_
  refine gast hx hb hK hP256 hD256 hS256 10 0 rfl rfl hF256 (k := 84) (by decide) (vinC (by decide)) d_15_11_1309 (L' := [(84, 22385), (83, 20350), (82, 18500), (81, 16818), (80, 15289), (79, 13899), (78, 12635), (77, 11487), (76, 10442), (75, 9493), (74, 8630), (73, 7845), (72, 7132), (71, 6484), (70, 5894), (69, 5358), (68, 4871), (67, 4428), (66, 4026), (65, 3660), (64, 3327), (63, 3024), (62, 2749), (61, 2499), (60, 2272), (59, 2066), (58, 1878), (57, 1707), (56, 1552), (55, 1411), (54, 1282), (53, 1166), (52, 1060), (51, 963), (50, 876), (49, 796), (48, 724), (47, 658), (46, 598), (45, 544), (44, 494), (43, 449), (42, 408), (41, 371), (40, 337), (39, 307), (38, 279), (37, 253), (36, 230), (35, 209), (34, 190), (33, 173), (32, 157), (31, 143), (30, 130), (29, 118), (28, 107), (27, 97), (26, 88), (25, 80), (24, 73), (23, 66), (22, 60), (21, 55), (20, 50), (19, 45), (18, 41), (17, 37), (16, 34), (15, 31), (14, 28), (13, 25), (12, 23), (11, 21), (10, 19), (9, 17), (8, 16), (7, 14), (6, 13), (5, 12), (4, 11), (3, 10), (2, 9), (1, 8), (0, 7)]) rfl (fun f257 H257 locs257 hF257 hP257 hD257 hS257 => ?_)
  have hP257 : va_P D cls [(a0, .inr (14, rg 107 f171)), (q2, .inl (ca 2, 3000, .inl f2)), (q4, .inl (ca 2, 20, .inl f4)), (q6, .inl (ca 5, 2, .inr (.inr (.inr (.inr f12))))), (q7, .inr (13, rg 81 x8_0)), (q10, .inr (13, rg 81 x11_0)), (q14, .inr (13, rg 81 x15_0)), (q17, .inl (ca 0, 3001, .inl f17)), (q19, .inl (ca 0, 3001, .inl f19)), (q140, .inl (ca 0, 8, .inl f140)), (q172, .inl (ca 0, 89, .inl f257))] H257 := hP257
  have hD257 : va_D A [(a0, .inr (14, rg 107 f171)), (q2, .inl (ca 2, 3000, .inl f2)), (q4, .inl (ca 2, 20, .inl f4)), (q6, .inl (ca 5, 2, .inr (.inr (.inr (.inr f12))))), (q7, .inr (13, rg 81 x8_0)), (q10, .inr (13, rg 81 x11_0)), (q14, .inr (13, rg 81 x15_0)), (q17, .inl (ca 0, 3001, .inl f17)), (q19, .inl (ca 0, 3001, .inl f19)), (q140, .inl (ca 0, 8, .inl f140)), (q172, .inl (ca 0, 89, .inl f257))] := hD257
  clear hP256 hD256 hS256 hF256
  refine lv_dup hx hb d_15_11_1310 rfl ?_
  refine lv_bipush (v := 85) hx hb d_15_11_1311 (by decide) ?_
  refine lv_sipush (v := 24623) hx hb d_15_11_1313 (by decide) ?_
  refine gast hx hb hK hP257 hD257 hS257 10 0 rfl rfl hF257 (k := 85) (by decide) (vinC (by decide)) d_15_11_1316 (L' := [(85, 24623), (84, 22385), (83, 20350), (82, 18500), (81, 16818), (80, 15289), (79, 13899), (78, 12635), (77, 11487), (76, 10442), (75, 9493), (74, 8630), (73, 7845), (72, 7132), (71, 6484), (70, 5894), (69, 5358), (68, 4871), (67, 4428), (66, 4026), (65, 3660), (64, 3327), (63, 3024), (62, 2749), (61, 2499), (60, 2272), (59, 2066), (58, 1878), (57, 1707), (56, 1552), (55, 1411), (54, 1282), (53, 1166), (52, 1060), (51, 963), (50, 876), (49, 796), (48, 724), (47, 658), (46, 598), (45, 544), (44, 494), (43, 449), (42, 408), (41, 371), (40, 337), (39, 307), (38, 279), (37, 253), (36, 230), (35, 209), (34, 190), (33, 173), (32, 157), (31, 143), (30, 130), (29, 118), (28, 107), (27, 97), (26, 88), (25, 80), (24, 73), (23, 66), (22, 60), (21, 55), (20, 50), (19, 45), (18, 41), (17, 37), (16, 34), (15, 31), (14, 28), (13, 25), (12, 23), (11, 21), (10, 19), (9, 17), (8, 16), (7, 14), (6, 13), (5, 12), (4, 11), (3, 10), (2, 9), (1, 8), (0, 7)]) rfl (fun f258 H258 locs258 hF258 hP258 hD258 hS258 => ?_)
  have hP258 : va_P D cls [(a0, .inr (14, rg 107 f171)), (q2, .inl (ca 2, 3000, .inl f2)), (q4, .inl (ca 2, 20, .inl f4)), (q6, .inl (ca 5, 2, .inr (.inr (.inr (.inr f12))))), (q7, .inr (13, rg 81 x8_0)), (q10, .inr (13, rg 81 x11_0)), (q14, .inr (13, rg 81 x15_0)), (q17, .inl (ca 0, 3001, .inl f17)), (q19, .inl (ca 0, 3001, .inl f19)), (q140, .inl (ca 0, 8, .inl f140)), (q172, .inl (ca 0, 89, .inl f258))] H258 := hP258
  have hD258 : va_D A [(a0, .inr (14, rg 107 f171)), (q2, .inl (ca 2, 3000, .inl f2)), (q4, .inl (ca 2, 20, .inl f4)), (q6, .inl (ca 5, 2, .inr (.inr (.inr (.inr f12))))), (q7, .inr (13, rg 81 x8_0)), (q10, .inr (13, rg 81 x11_0)), (q14, .inr (13, rg 81 x15_0)), (q17, .inl (ca 0, 3001, .inl f17)), (q19, .inl (ca 0, 3001, .inl f19)), (q140, .inl (ca 0, 8, .inl f140)), (q172, .inl (ca 0, 89, .inl f258))] := hD258
  clear hP257 hD257 hS257 hF257
  refine lv_dup hx hb d_15_11_1317 rfl ?_
  refine lv_bipush (v := 86) hx hb d_15_11_1318 (by decide) ?_
  refine lv_sipush (v := 27086) hx hb d_15_11_1320 (by decide) ?_
  refine gast hx hb hK hP258 hD258 hS258 10 0 rfl rfl hF258 (k := 86) (by decide) (vinC (by decide)) d_15_11_1323 (L' := [(86, 27086), (85, 24623), (84, 22385), (83, 20350), (82, 18500), (81, 16818), (80, 15289), (79, 13899), (78, 12635), (77, 11487), (76, 10442), (75, 9493), (74, 8630), (73, 7845), (72, 7132), (71, 6484), (70, 5894), (69, 5358), (68, 4871), (67, 4428), (66, 4026), (65, 3660), (64, 3327), (63, 3024), (62, 2749), (61, 2499), (60, 2272), (59, 2066), (58, 1878), (57, 1707), (56, 1552), (55, 1411), (54, 1282), (53, 1166), (52, 1060), (51, 963), (50, 876), (49, 796), (48, 724), (47, 658), (46, 598), (45, 544), (44, 494), (43, 449), (42, 408), (41, 371), (40, 337), (39, 307), (38, 279), (37, 253), (36, 230), (35, 209), (34, 190), (33, 173), (32, 157), (31, 143), (30, 130), (29, 118), (28, 107), (27, 97), (26, 88), (25, 80), (24, 73), (23, 66), (22, 60), (21, 55), (20, 50), (19, 45), (18, 41), (17, 37), (16, 34), (15, 31), (14, 28), (13, 25), (12, 23), (11, 21), (10, 19), (9, 17), (8, 16), (7, 14), (6, 13), (5, 12), (4, 11), (3, 10), (2, 9), (1, 8), (0, 7)]) rfl (fun f259 H259 locs259 hF259 hP259 hD259 hS259 => ?_)
  have hP259 : va_P D cls [(a0, .inr (14, rg 107 f171)), (q2, .inl (ca 2, 3000, .inl f2)), (q4, .inl (ca 2, 20, .inl f4)), (q6, .inl (ca 5, 2, .inr (.inr (.inr (.inr f12))))), (q7, .inr (13, rg 81 x8_0)), (q10, .inr (13, rg 81 x11_0)), (q14, .inr (13, rg 81 x15_0)), (q17, .inl (ca 0, 3001, .inl f17)), (q19, .inl (ca 0, 3001, .inl f19)), (q140, .inl (ca 0, 8, .inl f140)), (q172, .inl (ca 0, 89, .inl f259))] H259 := hP259
  have hD259 : va_D A [(a0, .inr (14, rg 107 f171)), (q2, .inl (ca 2, 3000, .inl f2)), (q4, .inl (ca 2, 20, .inl f4)), (q6, .inl (ca 5, 2, .inr (.inr (.inr (.inr f12))))), (q7, .inr (13, rg 81 x8_0)), (q10, .inr (13, rg 81 x11_0)), (q14, .inr (13, rg 81 x15_0)), (q17, .inl (ca 0, 3001, .inl f17)), (q19, .inl (ca 0, 3001, .inl f19)), (q140, .inl (ca 0, 8, .inl f140)), (q172, .inl (ca 0, 89, .inl f259))] := hD259
  clear hP258 hD258 hS258 hF258
  refine lv_dup hx hb d_15_11_1324 rfl ?_
  refine lv_bipush (v := 87) hx hb d_15_11_1325 (by decide) ?_
  refine lv_sipush (v := 29794) hx hb d_15_11_1327 (by decide) ?_
  refine gast hx hb hK hP259 hD259 hS259 10 0 rfl rfl hF259 (k := 87) (by decide) (vinC (by decide)) d_15_11_1330 (L' := [(87, 29794), (86, 27086), (85, 24623), (84, 22385), (83, 20350), (82, 18500), (81, 16818), (80, 15289), (79, 13899), (78, 12635), (77, 11487), (76, 10442), (75, 9493), (74, 8630), (73, 7845), (72, 7132), (71, 6484), (70, 5894), (69, 5358), (68, 4871), (67, 4428), (66, 4026), (65, 3660), (64, 3327), (63, 3024), (62, 2749), (61, 2499), (60, 2272), (59, 2066), (58, 1878), (57, 1707), (56, 1552), (55, 1411), (54, 1282), (53, 1166), (52, 1060), (51, 963), (50, 876), (49, 796), (48, 724), (47, 658), (46, 598), (45, 544), (44, 494), (43, 449), (42, 408), (41, 371), (40, 337), (39, 307), (38, 279), (37, 253), (36, 230), (35, 209), (34, 190), (33, 173), (32, 157), (31, 143), (30, 130), (29, 118), (28, 107), (27, 97), (26, 88), (25, 80), (24, 73), (23, 66), (22, 60), (21, 55), (20, 50), (19, 45), (18, 41), (17, 37), (16, 34), (15, 31), (14, 28), (13, 25), (12, 23), (11, 21), (10, 19), (9, 17), (8, 16), (7, 14), (6, 13), (5, 12), (4, 11), (3, 10), (2, 9), (1, 8), (0, 7)]) rfl (fun f260 H260 locs260 hF260 hP260 hD260 hS260 => ?_)
  have hP260 : va_P D cls [(a0, .inr (14, rg 107 f171)), (q2, .inl (ca 2, 3000, .inl f2)), (q4, .inl (ca 2, 20, .inl f4)), (q6, .inl (ca 5, 2, .inr (.inr (.inr (.inr f12))))), (q7, .inr (13, rg 81 x8_0)), (q10, .inr (13, rg 81 x11_0)), (q14, .inr (13, rg 81 x15_0)), (q17, .inl (ca 0, 3001, .inl f17)), (q19, .inl (ca 0, 3001, .inl f19)), (q140, .inl (ca 0, 8, .inl f140)), (q172, .inl (ca 0, 89, .inl f260))] H260 := hP260
  have hD260 : va_D A [(a0, .inr (14, rg 107 f171)), (q2, .inl (ca 2, 3000, .inl f2)), (q4, .inl (ca 2, 20, .inl f4)), (q6, .inl (ca 5, 2, .inr (.inr (.inr (.inr f12))))), (q7, .inr (13, rg 81 x8_0)), (q10, .inr (13, rg 81 x11_0)), (q14, .inr (13, rg 81 x15_0)), (q17, .inl (ca 0, 3001, .inl f17)), (q19, .inl (ca 0, 3001, .inl f19)), (q140, .inl (ca 0, 8, .inl f140)), (q172, .inl (ca 0, 89, .inl f260))] := hD260
  clear hP259 hD259 hS259 hF259
  refine lv_dup hx hb d_15_11_1331 rfl ?_
  refine lv_bipush (v := 88) hx hb d_15_11_1332 (by decide) ?_
  refine lv_sipush (v := 32767) hx hb d_15_11_1334 (by decide) ?_
  refine gast hx hb hK hP260 hD260 hS260 10 0 rfl rfl hF260 (k := 88) (by decide) (vinC (by decide)) d_15_11_1337 (L' := [(88, 32767), (87, 29794), (86, 27086), (85, 24623), (84, 22385), (83, 20350), (82, 18500), (81, 16818), (80, 15289), (79, 13899), (78, 12635), (77, 11487), (76, 10442), (75, 9493), (74, 8630), (73, 7845), (72, 7132), (71, 6484), (70, 5894), (69, 5358), (68, 4871), (67, 4428), (66, 4026), (65, 3660), (64, 3327), (63, 3024), (62, 2749), (61, 2499), (60, 2272), (59, 2066), (58, 1878), (57, 1707), (56, 1552), (55, 1411), (54, 1282), (53, 1166), (52, 1060), (51, 963), (50, 876), (49, 796), (48, 724), (47, 658), (46, 598), (45, 544), (44, 494), (43, 449), (42, 408), (41, 371), (40, 337), (39, 307), (38, 279), (37, 253), (36, 230), (35, 209), (34, 190), (33, 173), (32, 157), (31, 143), (30, 130), (29, 118), (28, 107), (27, 97), (26, 88), (25, 80), (24, 73), (23, 66), (22, 60), (21, 55), (20, 50), (19, 45), (18, 41), (17, 37), (16, 34), (15, 31), (14, 28), (13, 25), (12, 23), (11, 21), (10, 19), (9, 17), (8, 16), (7, 14), (6, 13), (5, 12), (4, 11), (3, 10), (2, 9), (1, 8), (0, 7)]) rfl (fun f261 H261 locs261 hF261 hP261 hD261 hS261 => ?_)
  have hP261 : va_P D cls [(a0, .inr (14, rg 107 f171)), (q2, .inl (ca 2, 3000, .inl f2)), (q4, .inl (ca 2, 20, .inl f4)), (q6, .inl (ca 5, 2, .inr (.inr (.inr (.inr f12))))), (q7, .inr (13, rg 81 x8_0)), (q10, .inr (13, rg 81 x11_0)), (q14, .inr (13, rg 81 x15_0)), (q17, .inl (ca 0, 3001, .inl f17)), (q19, .inl (ca 0, 3001, .inl f19)), (q140, .inl (ca 0, 8, .inl f140)), (q172, .inl (ca 0, 89, .inl f261))] H261 := hP261
  have hD261 : va_D A [(a0, .inr (14, rg 107 f171)), (q2, .inl (ca 2, 3000, .inl f2)), (q4, .inl (ca 2, 20, .inl f4)), (q6, .inl (ca 5, 2, .inr (.inr (.inr (.inr f12))))), (q7, .inr (13, rg 81 x8_0)), (q10, .inr (13, rg 81 x11_0)), (q14, .inr (13, rg 81 x15_0)), (q17, .inl (ca 0, 3001, .inl f17)), (q19, .inl (ca 0, 3001, .inl f19)), (q140, .inl (ca 0, 8, .inl f140)), (q172, .inl (ca 0, 89, .inl f261))] := hD261
  clear hP260 hD260 hS260 hF260
  refine gputFX hx hb hts inW_14 tyX14 tyX14_ok nmX14 hown hK hP261 hD261 hS261 0 rfl rfl hF171 96 (by decide) k_11_94 rfl hnm rfl rfl rfl d_15_11_1338 (L' := [(74, .ref q140), (8, .ref q19), (7, .ref q17), (6, .ref q14), (5, .ref q6), (4, .ref q4), (2, .ref q2)]) rfl (fun f262 H262 locs262 hF262 hm262 hP262 hD262 hS262 => ?_)
  have hM262 := gM.tr hM171 hm262
  have hP262 : va_P D cls [(a0, .inr (14, rg 107 f262)), (q2, .inl (ca 2, 3000, .inl f2)), (q4, .inl (ca 2, 20, .inl f4)), (q6, .inl (ca 5, 2, .inr (.inr (.inr (.inr f12))))), (q7, .inr (13, rg 81 x8_0)), (q10, .inr (13, rg 81 x11_0)), (q14, .inr (13, rg 81 x15_0)), (q17, .inl (ca 0, 3001, .inl f17)), (q19, .inl (ca 0, 3001, .inl f19)), (q140, .inl (ca 0, 8, .inl f140)), (q172, .inl (ca 0, 89, .inl f261))] H262 := hP262
  have hD262 : va_D A [(a0, .inr (14, rg 107 f262)), (q2, .inl (ca 2, 3000, .inl f2)), (q4, .inl (ca 2, 20, .inl f4)), (q6, .inl (ca 5, 2, .inr (.inr (.inr (.inr f12))))), (q7, .inr (13, rg 81 x8_0)), (q10, .inr (13, rg 81 x11_0)), (q14, .inr (13, rg 81 x15_0)), (q17, .inl (ca 0, 3001, .inl f17)), (q19, .inl (ca 0, 3001, .inl f19)), (q140, .inl (ca 0, 8, .inl f140)), (q172, .inl (ca 0, 89, .inl f261))] := hD262
  clear hP261 hD261 hS261 hF171 hM171 hm262
  have hP263 := hP262.sub (ws' := [(a0, .inr (14, rg 107 f262)), (q2, .inl (ca 2, 3000, .inl f2)), (q4, .inl (ca 2, 20, .inl f4)), (q6, .inl (ca 5, 2, .inr (.inr (.inr (.inr f12))))), (q7, .inr (13, rg 81 x8_0)), (q10, .inr (13, rg 81 x11_0)), (q14, .inr (13, rg 81 x15_0)), (q17, .inl (ca 0, 3001, .inl f17)), (q19, .inl (ca 0, 3001, .inl f19)), (q140, .inl (ca 0, 8, .inl f140))]) [0, 1, 2, 3, 4, 5, 6, 7, 8, 9] rfl
  have hD263 := hD262.sub (ws' := [(a0, .inr (14, rg 107 f262)), (q2, .inl (ca 2, 3000, .inl f2)), (q4, .inl (ca 2, 20, .inl f4)), (q6, .inl (ca 5, 2, .inr (.inr (.inr (.inr f12))))), (q7, .inr (13, rg 81 x8_0)), (q10, .inr (13, rg 81 x11_0)), (q14, .inr (13, rg 81 x15_0)), (q17, .inl (ca 0, 3001, .inl f17)), (q19, .inl (ca 0, 3001, .inl f19)), (q140, .inl (ca 0, 8, .inl f140))]) [0, 1, 2, 3, 4, 5, 6, 7, 8, 9] (by decide) rfl
  refine lv_aload_n hx hb d_15_11_1341 rfl (lv_at hl 0 rfl) ?_
  refine lv_bipush (v := 8) hx hb d_15_11_1342 (by decide) ?_
  refine gnewa (atype := .int) hx hb hts (ty := .int) rfl k_1_57 hK 0 rfl (fun _ _ => gu_int) hP263 hD263 hS262 hA (a0 := (8, .inl (fun _ => 0))) (fun _ => rfl) (by decide) (N' := 8) (by decide) (Nat.le_of_ble_eq_true rfl) (Nat.le_of_ble_eq_true rfl) (Nat.le_of_ble_eq_true rfl) d_15_11_1344 (fun q264 H264 hP264 hD264 hS264 => ?_)
  obtain ⟨f264, hF264, hP264, hD264⟩ : ∃ f : Nat → Int32, gF f [] ∧ va_P D cls ([(a0, .inr (14, rg 107 f262)), (q2, .inl (ca 2, 3000, .inl f2)), (q4, .inl (ca 2, 20, .inl f4)), (q6, .inl (ca 5, 2, .inr (.inr (.inr (.inr f12))))), (q7, .inr (13, rg 81 x8_0)), (q10, .inr (13, rg 81 x11_0)), (q14, .inr (13, rg 81 x15_0)), (q17, .inl (ca 0, 3001, .inl f17)), (q19, .inl (ca 0, 3001, .inl f19)), (q140, .inl (ca 0, 8, .inl f140))] ++ [(q264, .inl (ca 0, 8, .inl f))]) H264 ∧ va_D A ([(a0, .inr (14, rg 107 f262)), (q2, .inl (ca 2, 3000, .inl f2)), (q4, .inl (ca 2, 20, .inl f4)), (q6, .inl (ca 5, 2, .inr (.inr (.inr (.inr f12))))), (q7, .inr (13, rg 81 x8_0)), (q10, .inr (13, rg 81 x11_0)), (q14, .inr (13, rg 81 x15_0)), (q17, .inl (ca 0, 3001, .inl f17)), (q19, .inl (ca 0, 3001, .inl f19)), (q140, .inl (ca 0, 8, .inl f140))] ++ [(q264, .inl (ca 0, 8, .inl f))]) := ⟨_, gF_nil, hP264, hD264⟩
  have hP264 : va_P D cls [(a0, .inr (14, rg 107 f262)), (q2, .inl (ca 2, 3000, .inl f2)), (q4, .inl (ca 2, 20, .inl f4)), (q6, .inl (ca 5, 2, .inr (.inr (.inr (.inr f12))))), (q7, .inr (13, rg 81 x8_0)), (q10, .inr (13, rg 81 x11_0)), (q14, .inr (13, rg 81 x15_0)), (q17, .inl (ca 0, 3001, .inl f17)), (q19, .inl (ca 0, 3001, .inl f19)), (q140, .inl (ca 0, 8, .inl f140)), (q264, .inl (ca 0, 8, .inl f264))] H264 := hP264
  have hD264 : va_D A [(a0, .inr (14, rg 107 f262)), (q2, .inl (ca 2, 3000, .inl f2)), (q4, .inl (ca 2, 20, .inl f4)), (q6, .inl (ca 5, 2, .inr (.inr (.inr (.inr f12))))), (q7, .inr (13, rg 81 x8_0)), (q10, .inr (13, rg 81 x11_0)), (q14, .inr (13, rg 81 x15_0)), (q17, .inl (ca 0, 3001, .inl f17)), (q19, .inl (ca 0, 3001, .inl f19)), (q140, .inl (ca 0, 8, .inl f140)), (q264, .inl (ca 0, 8, .inl f264))] := hD264
  refine W.widen (k := 243) (n := 654913) (Nat.le_of_ble_eq_true rfl) (Nat.le_of_ble_eq_true rfl) ?_
  refine lv_dup hx hb d_15_11_1346 rfl ?_
  refine lv_iconst (v := 0) hx hb d_15_11_1347 (by decide) ?_
  refine lv_iconst (v := (-1)) hx hb d_15_11_1348 (by decide) ?_
  refine gast hx hb hK hP264 hD264 hS264 10 0 rfl rfl hF264 (k := 0) (by decide) (vinC (by decide)) d_15_11_1349 (L' := [(0, (-1))]) rfl (fun f265 H265 locs265 hF265 hP265 hD265 hS265 => ?_)
  have hP265 : va_P D cls [(a0, .inr (14, rg 107 f262)), (q2, .inl (ca 2, 3000, .inl f2)), (q4, .inl (ca 2, 20, .inl f4)), (q6, .inl (ca 5, 2, .inr (.inr (.inr (.inr f12))))), (q7, .inr (13, rg 81 x8_0)), (q10, .inr (13, rg 81 x11_0)), (q14, .inr (13, rg 81 x15_0)), (q17, .inl (ca 0, 3001, .inl f17)), (q19, .inl (ca 0, 3001, .inl f19)), (q140, .inl (ca 0, 8, .inl f140)), (q264, .inl (ca 0, 8, .inl f265))] H265 := hP265
  have hD265 : va_D A [(a0, .inr (14, rg 107 f262)), (q2, .inl (ca 2, 3000, .inl f2)), (q4, .inl (ca 2, 20, .inl f4)), (q6, .inl (ca 5, 2, .inr (.inr (.inr (.inr f12))))), (q7, .inr (13, rg 81 x8_0)), (q10, .inr (13, rg 81 x11_0)), (q14, .inr (13, rg 81 x15_0)), (q17, .inl (ca 0, 3001, .inl f17)), (q19, .inl (ca 0, 3001, .inl f19)), (q140, .inl (ca 0, 8, .inl f140)), (q264, .inl (ca 0, 8, .inl f265))] := hD265
  clear hP264 hD264 hS264 hF264
  refine lv_dup hx hb d_15_11_1350 rfl ?_
  refine lv_iconst (v := 1) hx hb d_15_11_1351 (by decide) ?_
  refine lv_iconst (v := (-1)) hx hb d_15_11_1352 (by decide) ?_
  refine gast hx hb hK hP265 hD265 hS265 10 0 rfl rfl hF265 (k := 1) (by decide) (vinC (by decide)) d_15_11_1353 (L' := [(1, (-1)), (0, (-1))]) rfl (fun f266 H266 locs266 hF266 hP266 hD266 hS266 => ?_)
  have hP266 : va_P D cls [(a0, .inr (14, rg 107 f262)), (q2, .inl (ca 2, 3000, .inl f2)), (q4, .inl (ca 2, 20, .inl f4)), (q6, .inl (ca 5, 2, .inr (.inr (.inr (.inr f12))))), (q7, .inr (13, rg 81 x8_0)), (q10, .inr (13, rg 81 x11_0)), (q14, .inr (13, rg 81 x15_0)), (q17, .inl (ca 0, 3001, .inl f17)), (q19, .inl (ca 0, 3001, .inl f19)), (q140, .inl (ca 0, 8, .inl f140)), (q264, .inl (ca 0, 8, .inl f266))] H266 := hP266
  have hD266 : va_D A [(a0, .inr (14, rg 107 f262)), (q2, .inl (ca 2, 3000, .inl f2)), (q4, .inl (ca 2, 20, .inl f4)), (q6, .inl (ca 5, 2, .inr (.inr (.inr (.inr f12))))), (q7, .inr (13, rg 81 x8_0)), (q10, .inr (13, rg 81 x11_0)), (q14, .inr (13, rg 81 x15_0)), (q17, .inl (ca 0, 3001, .inl f17)), (q19, .inl (ca 0, 3001, .inl f19)), (q140, .inl (ca 0, 8, .inl f140)), (q264, .inl (ca 0, 8, .inl f266))] := hD266
  clear hP265 hD265 hS265 hF265
  refine lv_dup hx hb d_15_11_1354 rfl ?_
  refine lv_iconst (v := 2) hx hb d_15_11_1355 (by decide) ?_
  refine lv_iconst (v := (-1)) hx hb d_15_11_1356 (by decide) ?_
  refine gast hx hb hK hP266 hD266 hS266 10 0 rfl rfl hF266 (k := 2) (by decide) (vinC (by decide)) d_15_11_1357 (L' := [(2, (-1)), (1, (-1)), (0, (-1))]) rfl (fun f267 H267 locs267 hF267 hP267 hD267 hS267 => ?_)
  have hP267 : va_P D cls [(a0, .inr (14, rg 107 f262)), (q2, .inl (ca 2, 3000, .inl f2)), (q4, .inl (ca 2, 20, .inl f4)), (q6, .inl (ca 5, 2, .inr (.inr (.inr (.inr f12))))), (q7, .inr (13, rg 81 x8_0)), (q10, .inr (13, rg 81 x11_0)), (q14, .inr (13, rg 81 x15_0)), (q17, .inl (ca 0, 3001, .inl f17)), (q19, .inl (ca 0, 3001, .inl f19)), (q140, .inl (ca 0, 8, .inl f140)), (q264, .inl (ca 0, 8, .inl f267))] H267 := hP267
  have hD267 : va_D A [(a0, .inr (14, rg 107 f262)), (q2, .inl (ca 2, 3000, .inl f2)), (q4, .inl (ca 2, 20, .inl f4)), (q6, .inl (ca 5, 2, .inr (.inr (.inr (.inr f12))))), (q7, .inr (13, rg 81 x8_0)), (q10, .inr (13, rg 81 x11_0)), (q14, .inr (13, rg 81 x15_0)), (q17, .inl (ca 0, 3001, .inl f17)), (q19, .inl (ca 0, 3001, .inl f19)), (q140, .inl (ca 0, 8, .inl f140)), (q264, .inl (ca 0, 8, .inl f267))] := hD267
  clear hP266 hD266 hS266 hF266
  refine lv_dup hx hb d_15_11_1358 rfl ?_
  refine lv_iconst (v := 3) hx hb d_15_11_1359 (by decide) ?_
  refine lv_iconst (v := (-1)) hx hb d_15_11_1360 (by decide) ?_
  refine gast hx hb hK hP267 hD267 hS267 10 0 rfl rfl hF267 (k := 3) (by decide) (vinC (by decide)) d_15_11_1361 (L' := [(3, (-1)), (2, (-1)), (1, (-1)), (0, (-1))]) rfl (fun f268 H268 locs268 hF268 hP268 hD268 hS268 => ?_)
  have hP268 : va_P D cls [(a0, .inr (14, rg 107 f262)), (q2, .inl (ca 2, 3000, .inl f2)), (q4, .inl (ca 2, 20, .inl f4)), (q6, .inl (ca 5, 2, .inr (.inr (.inr (.inr f12))))), (q7, .inr (13, rg 81 x8_0)), (q10, .inr (13, rg 81 x11_0)), (q14, .inr (13, rg 81 x15_0)), (q17, .inl (ca 0, 3001, .inl f17)), (q19, .inl (ca 0, 3001, .inl f19)), (q140, .inl (ca 0, 8, .inl f140)), (q264, .inl (ca 0, 8, .inl f268))] H268 := hP268
  have hD268 : va_D A [(a0, .inr (14, rg 107 f262)), (q2, .inl (ca 2, 3000, .inl f2)), (q4, .inl (ca 2, 20, .inl f4)), (q6, .inl (ca 5, 2, .inr (.inr (.inr (.inr f12))))), (q7, .inr (13, rg 81 x8_0)), (q10, .inr (13, rg 81 x11_0)), (q14, .inr (13, rg 81 x15_0)), (q17, .inl (ca 0, 3001, .inl f17)), (q19, .inl (ca 0, 3001, .inl f19)), (q140, .inl (ca 0, 8, .inl f140)), (q264, .inl (ca 0, 8, .inl f268))] := hD268
  clear hP267 hD267 hS267 hF267
  refine lv_dup hx hb d_15_11_1362 rfl ?_
  refine lv_iconst (v := 4) hx hb d_15_11_1363 (by decide) ?_
  refine lv_iconst (v := 2) hx hb d_15_11_1364 (by decide) ?_
  refine gast hx hb hK hP268 hD268 hS268 10 0 rfl rfl hF268 (k := 4) (by decide) (vinC (by decide)) d_15_11_1365 (L' := [(4, 2), (3, (-1)), (2, (-1)), (1, (-1)), (0, (-1))]) rfl (fun f269 H269 locs269 hF269 hP269 hD269 hS269 => ?_)
  have hP269 : va_P D cls [(a0, .inr (14, rg 107 f262)), (q2, .inl (ca 2, 3000, .inl f2)), (q4, .inl (ca 2, 20, .inl f4)), (q6, .inl (ca 5, 2, .inr (.inr (.inr (.inr f12))))), (q7, .inr (13, rg 81 x8_0)), (q10, .inr (13, rg 81 x11_0)), (q14, .inr (13, rg 81 x15_0)), (q17, .inl (ca 0, 3001, .inl f17)), (q19, .inl (ca 0, 3001, .inl f19)), (q140, .inl (ca 0, 8, .inl f140)), (q264, .inl (ca 0, 8, .inl f269))] H269 := hP269
  have hD269 : va_D A [(a0, .inr (14, rg 107 f262)), (q2, .inl (ca 2, 3000, .inl f2)), (q4, .inl (ca 2, 20, .inl f4)), (q6, .inl (ca 5, 2, .inr (.inr (.inr (.inr f12))))), (q7, .inr (13, rg 81 x8_0)), (q10, .inr (13, rg 81 x11_0)), (q14, .inr (13, rg 81 x15_0)), (q17, .inl (ca 0, 3001, .inl f17)), (q19, .inl (ca 0, 3001, .inl f19)), (q140, .inl (ca 0, 8, .inl f140)), (q264, .inl (ca 0, 8, .inl f269))] := hD269
  clear hP268 hD268 hS268 hF268
  refine lv_dup hx hb d_15_11_1366 rfl ?_
  refine lv_iconst (v := 5) hx hb d_15_11_1367 (by decide) ?_
  refine lv_iconst (v := 4) hx hb d_15_11_1368 (by decide) ?_
  refine gast hx hb hK hP269 hD269 hS269 10 0 rfl rfl hF269 (k := 5) (by decide) (vinC (by decide)) d_15_11_1369 (L' := [(5, 4), (4, 2), (3, (-1)), (2, (-1)), (1, (-1)), (0, (-1))]) rfl (fun f270 H270 locs270 hF270 hP270 hD270 hS270 => ?_)
  have hP270 : va_P D cls [(a0, .inr (14, rg 107 f262)), (q2, .inl (ca 2, 3000, .inl f2)), (q4, .inl (ca 2, 20, .inl f4)), (q6, .inl (ca 5, 2, .inr (.inr (.inr (.inr f12))))), (q7, .inr (13, rg 81 x8_0)), (q10, .inr (13, rg 81 x11_0)), (q14, .inr (13, rg 81 x15_0)), (q17, .inl (ca 0, 3001, .inl f17)), (q19, .inl (ca 0, 3001, .inl f19)), (q140, .inl (ca 0, 8, .inl f140)), (q264, .inl (ca 0, 8, .inl f270))] H270 := hP270
  have hD270 : va_D A [(a0, .inr (14, rg 107 f262)), (q2, .inl (ca 2, 3000, .inl f2)), (q4, .inl (ca 2, 20, .inl f4)), (q6, .inl (ca 5, 2, .inr (.inr (.inr (.inr f12))))), (q7, .inr (13, rg 81 x8_0)), (q10, .inr (13, rg 81 x11_0)), (q14, .inr (13, rg 81 x15_0)), (q17, .inl (ca 0, 3001, .inl f17)), (q19, .inl (ca 0, 3001, .inl f19)), (q140, .inl (ca 0, 8, .inl f140)), (q264, .inl (ca 0, 8, .inl f270))] := hD270
  clear hP269 hD269 hS269 hF269
  refine lv_dup hx hb d_15_11_1370 rfl ?_
  refine lv_bipush (v := 6) hx hb d_15_11_1371 (by decide) ?_
  refine lv_bipush (v := 6) hx hb d_15_11_1373 (by decide) ?_
  refine gast hx hb hK hP270 hD270 hS270 10 0 rfl rfl hF270 (k := 6) (by decide) (vinC (by decide)) d_15_11_1375 (L' := [(6, 6), (5, 4), (4, 2), (3, (-1)), (2, (-1)), (1, (-1)), (0, (-1))]) rfl (fun f271 H271 locs271 hF271 hP271 hD271 hS271 => ?_)
  have hP271 : va_P D cls [(a0, .inr (14, rg 107 f262)), (q2, .inl (ca 2, 3000, .inl f2)), (q4, .inl (ca 2, 20, .inl f4)), (q6, .inl (ca 5, 2, .inr (.inr (.inr (.inr f12))))), (q7, .inr (13, rg 81 x8_0)), (q10, .inr (13, rg 81 x11_0)), (q14, .inr (13, rg 81 x15_0)), (q17, .inl (ca 0, 3001, .inl f17)), (q19, .inl (ca 0, 3001, .inl f19)), (q140, .inl (ca 0, 8, .inl f140)), (q264, .inl (ca 0, 8, .inl f271))] H271 := hP271
  have hD271 : va_D A [(a0, .inr (14, rg 107 f262)), (q2, .inl (ca 2, 3000, .inl f2)), (q4, .inl (ca 2, 20, .inl f4)), (q6, .inl (ca 5, 2, .inr (.inr (.inr (.inr f12))))), (q7, .inr (13, rg 81 x8_0)), (q10, .inr (13, rg 81 x11_0)), (q14, .inr (13, rg 81 x15_0)), (q17, .inl (ca 0, 3001, .inl f17)), (q19, .inl (ca 0, 3001, .inl f19)), (q140, .inl (ca 0, 8, .inl f140)), (q264, .inl (ca 0, 8, .inl f271))] := hD271
  clear hP270 hD270 hS270 hF270
  refine lv_dup hx hb d_15_11_1376 rfl ?_
  refine lv_bipush (v := 7) hx hb d_15_11_1377 (by decide) ?_
  refine lv_bipush (v := 8) hx hb d_15_11_1379 (by decide) ?_
  refine gast hx hb hK hP271 hD271 hS271 10 0 rfl rfl hF271 (k := 7) (by decide) (vinC (by decide)) d_15_11_1381 (L' := [(7, 8), (6, 6), (5, 4), (4, 2), (3, (-1)), (2, (-1)), (1, (-1)), (0, (-1))]) rfl (fun f272 H272 locs272 hF272 hP272 hD272 hS272 => ?_)
  have hP272 : va_P D cls [(a0, .inr (14, rg 107 f262)), (q2, .inl (ca 2, 3000, .inl f2)), (q4, .inl (ca 2, 20, .inl f4)), (q6, .inl (ca 5, 2, .inr (.inr (.inr (.inr f12))))), (q7, .inr (13, rg 81 x8_0)), (q10, .inr (13, rg 81 x11_0)), (q14, .inr (13, rg 81 x15_0)), (q17, .inl (ca 0, 3001, .inl f17)), (q19, .inl (ca 0, 3001, .inl f19)), (q140, .inl (ca 0, 8, .inl f140)), (q264, .inl (ca 0, 8, .inl f272))] H272 := hP272
  have hD272 : va_D A [(a0, .inr (14, rg 107 f262)), (q2, .inl (ca 2, 3000, .inl f2)), (q4, .inl (ca 2, 20, .inl f4)), (q6, .inl (ca 5, 2, .inr (.inr (.inr (.inr f12))))), (q7, .inr (13, rg 81 x8_0)), (q10, .inr (13, rg 81 x11_0)), (q14, .inr (13, rg 81 x15_0)), (q17, .inl (ca 0, 3001, .inl f17)), (q19, .inl (ca 0, 3001, .inl f19)), (q140, .inl (ca 0, 8, .inl f140)), (q264, .inl (ca 0, 8, .inl f272))] := hD272
  clear hP271 hD271 hS271 hF271
  refine gputFX hx hb hts inW_14 tyX14 tyX14_ok nmX14 hown hK hP272 hD272 hS272 0 rfl rfl hF262 97 (by decide) k_11_95 rfl hnm rfl rfl rfl d_15_11_1382 (L' := [(74, .ref q140), (8, .ref q19), (7, .ref q17), (6, .ref q14), (5, .ref q6), (4, .ref q4), (2, .ref q2)]) rfl (fun f273 H273 locs273 hF273 hm273 hP273 hD273 hS273 => ?_)
  have hM273 := gM.tr hM262 hm273
  have hP273 : va_P D cls [(a0, .inr (14, rg 107 f273)), (q2, .inl (ca 2, 3000, .inl f2)), (q4, .inl (ca 2, 20, .inl f4)), (q6, .inl (ca 5, 2, .inr (.inr (.inr (.inr f12))))), (q7, .inr (13, rg 81 x8_0)), (q10, .inr (13, rg 81 x11_0)), (q14, .inr (13, rg 81 x15_0)), (q17, .inl (ca 0, 3001, .inl f17)), (q19, .inl (ca 0, 3001, .inl f19)), (q140, .inl (ca 0, 8, .inl f140)), (q264, .inl (ca 0, 8, .inl f272))] H273 := hP273
  have hD273 : va_D A [(a0, .inr (14, rg 107 f273)), (q2, .inl (ca 2, 3000, .inl f2)), (q4, .inl (ca 2, 20, .inl f4)), (q6, .inl (ca 5, 2, .inr (.inr (.inr (.inr f12))))), (q7, .inr (13, rg 81 x8_0)), (q10, .inr (13, rg 81 x11_0)), (q14, .inr (13, rg 81 x15_0)), (q17, .inl (ca 0, 3001, .inl f17)), (q19, .inl (ca 0, 3001, .inl f19)), (q140, .inl (ca 0, 8, .inl f140)), (q264, .inl (ca 0, 8, .inl f272))] := hD273
  clear hP272 hD272 hS272 hF262 hM262 hm273
  have hP274 := hP273.sub (ws' := [(a0, .inr (14, rg 107 f273)), (q2, .inl (ca 2, 3000, .inl f2)), (q4, .inl (ca 2, 20, .inl f4)), (q6, .inl (ca 5, 2, .inr (.inr (.inr (.inr f12))))), (q7, .inr (13, rg 81 x8_0)), (q10, .inr (13, rg 81 x11_0)), (q14, .inr (13, rg 81 x15_0)), (q17, .inl (ca 0, 3001, .inl f17)), (q19, .inl (ca 0, 3001, .inl f19)), (q140, .inl (ca 0, 8, .inl f140))]) [0, 1, 2, 3, 4, 5, 6, 7, 8, 9] rfl
  have hD274 := hD273.sub (ws' := [(a0, .inr (14, rg 107 f273)), (q2, .inl (ca 2, 3000, .inl f2)), (q4, .inl (ca 2, 20, .inl f4)), (q6, .inl (ca 5, 2, .inr (.inr (.inr (.inr f12))))), (q7, .inr (13, rg 81 x8_0)), (q10, .inr (13, rg 81 x11_0)), (q14, .inr (13, rg 81 x15_0)), (q17, .inl (ca 0, 3001, .inl f17)), (q19, .inl (ca 0, 3001, .inl f19)), (q140, .inl (ca 0, 8, .inl f140))]) [0, 1, 2, 3, 4, 5, 6, 7, 8, 9] (by decide) rfl
  refine lv_aload_n hx hb d_15_11_1385 rfl (lv_at hl 0 rfl) ?_
  refine lv_bipush (v := 24) hx hb d_15_11_1386 (by decide) ?_
  refine gnewaX (atype := .int) hx hb hts k_1_57 hP274 hS273 (by decide) (N' := 24) (by decide) (Nat.le_of_ble_eq_true rfl) (Nat.le_of_ble_eq_true rfl) (Nat.le_of_ble_eq_true rfl) d_15_11_1388 (fun q275 H275 hP275 hS275 => ?_)
  clear hP274 hS273
  refine W.widen (k := 244) (n := 654937) (Nat.le_of_ble_eq_true rfl) (Nat.le_of_ble_eq_true rfl) ?_
  refine gputFX hx hb hts inW_14 tyX14 tyX14_ok nmX14 hown hK hP275 hD274 hS275 0 rfl rfl hF273 98 (by decide) k_11_96 rfl hnm rfl rfl rfl d_15_11_1390 (L' := [(74, .ref q140), (8, .ref q19), (7, .ref q17), (6, .ref q14), (5, .ref q6), (4, .ref q4), (2, .ref q2)]) rfl (fun f276 H276 locs276 hF276 hm276 hP276 hD276 hS276 => ?_)
  have hM276 := gM.tr hM273 hm276
  have hP276 : va_P D cls [(a0, .inr (14, rg 107 f276)), (q2, .inl (ca 2, 3000, .inl f2)), (q4, .inl (ca 2, 20, .inl f4)), (q6, .inl (ca 5, 2, .inr (.inr (.inr (.inr f12))))), (q7, .inr (13, rg 81 x8_0)), (q10, .inr (13, rg 81 x11_0)), (q14, .inr (13, rg 81 x15_0)), (q17, .inl (ca 0, 3001, .inl f17)), (q19, .inl (ca 0, 3001, .inl f19)), (q140, .inl (ca 0, 8, .inl f140))] H276 := hP276
  have hD276 : va_D A [(a0, .inr (14, rg 107 f276)), (q2, .inl (ca 2, 3000, .inl f2)), (q4, .inl (ca 2, 20, .inl f4)), (q6, .inl (ca 5, 2, .inr (.inr (.inr (.inr f12))))), (q7, .inr (13, rg 81 x8_0)), (q10, .inr (13, rg 81 x11_0)), (q14, .inr (13, rg 81 x15_0)), (q17, .inl (ca 0, 3001, .inl f17)), (q19, .inl (ca 0, 3001, .inl f19)), (q140, .inl (ca 0, 8, .inl f140))] := hD276
  clear hP275 hD274 hS275 hF273 hM273 hm276
  refine lv_aload_n hx hb d_15_11_1393 rfl (lv_at hl 0 rfl) ?_
  refine lv_bipush (v := 24) hx hb d_15_11_1394 (by decide) ?_
  refine gnewaX (atype := .int) hx hb hts k_1_57 hP276 hS276 (by decide) (N' := 24) (by decide) (Nat.le_of_ble_eq_true rfl) (Nat.le_of_ble_eq_true rfl) (Nat.le_of_ble_eq_true rfl) d_15_11_1396 (fun q277 H277 hP277 hS277 => ?_)
  clear hP276 hS276
  refine W.widen (k := 245) (n := 654961) (Nat.le_of_ble_eq_true rfl) (Nat.le_of_ble_eq_true rfl) ?_
  refine gputFX hx hb hts inW_14 tyX14 tyX14_ok nmX14 hown hK hP277 hD276 hS277 0 rfl rfl hF276 99 (by decide) k_11_97 rfl hnm rfl rfl rfl d_15_11_1398 (L' := [(74, .ref q140), (8, .ref q19), (7, .ref q17), (6, .ref q14), (5, .ref q6), (4, .ref q4), (2, .ref q2)]) rfl (fun f278 H278 locs278 hF278 hm278 hP278 hD278 hS278 => ?_)
  have hM278 := gM.tr hM276 hm278
  have hP278 : va_P D cls [(a0, .inr (14, rg 107 f278)), (q2, .inl (ca 2, 3000, .inl f2)), (q4, .inl (ca 2, 20, .inl f4)), (q6, .inl (ca 5, 2, .inr (.inr (.inr (.inr f12))))), (q7, .inr (13, rg 81 x8_0)), (q10, .inr (13, rg 81 x11_0)), (q14, .inr (13, rg 81 x15_0)), (q17, .inl (ca 0, 3001, .inl f17)), (q19, .inl (ca 0, 3001, .inl f19)), (q140, .inl (ca 0, 8, .inl f140))] H278 := hP278
  have hD278 : va_D A [(a0, .inr (14, rg 107 f278)), (q2, .inl (ca 2, 3000, .inl f2)), (q4, .inl (ca 2, 20, .inl f4)), (q6, .inl (ca 5, 2, .inr (.inr (.inr (.inr f12))))), (q7, .inr (13, rg 81 x8_0)), (q10, .inr (13, rg 81 x11_0)), (q14, .inr (13, rg 81 x15_0)), (q17, .inl (ca 0, 3001, .inl f17)), (q19, .inl (ca 0, 3001, .inl f19)), (q140, .inl (ca 0, 8, .inl f140))] := hD278
  clear hP277 hD276 hS277 hF276 hM276 hm278
  refine lv_aload_n hx hb d_15_11_1401 rfl (lv_at hl 0 rfl) ?_
  refine lv_bipush (v := 24) hx hb d_15_11_1402 (by decide) ?_
  refine gnewa (atype := .int) hx hb hts (ty := .int) rfl k_1_57 hK 0 rfl (fun _ _ => gu_int) hP278 hD278 hS278 hA (a0 := (24, .inl (fun _ => 0))) (fun _ => rfl) (by decide) (N' := 24) (by decide) (Nat.le_of_ble_eq_true rfl) (Nat.le_of_ble_eq_true rfl) (Nat.le_of_ble_eq_true rfl) d_15_11_1404 (fun q279 H279 hP279 hD279 hS279 => ?_)
  obtain ⟨f279, hF279, hP279, hD279⟩ : ∃ f : Nat → Int32, gF f [] ∧ va_P D cls ([(a0, .inr (14, rg 107 f278)), (q2, .inl (ca 2, 3000, .inl f2)), (q4, .inl (ca 2, 20, .inl f4)), (q6, .inl (ca 5, 2, .inr (.inr (.inr (.inr f12))))), (q7, .inr (13, rg 81 x8_0)), (q10, .inr (13, rg 81 x11_0)), (q14, .inr (13, rg 81 x15_0)), (q17, .inl (ca 0, 3001, .inl f17)), (q19, .inl (ca 0, 3001, .inl f19)), (q140, .inl (ca 0, 8, .inl f140))] ++ [(q279, .inl (ca 0, 24, .inl f))]) H279 ∧ va_D A ([(a0, .inr (14, rg 107 f278)), (q2, .inl (ca 2, 3000, .inl f2)), (q4, .inl (ca 2, 20, .inl f4)), (q6, .inl (ca 5, 2, .inr (.inr (.inr (.inr f12))))), (q7, .inr (13, rg 81 x8_0)), (q10, .inr (13, rg 81 x11_0)), (q14, .inr (13, rg 81 x15_0)), (q17, .inl (ca 0, 3001, .inl f17)), (q19, .inl (ca 0, 3001, .inl f19)), (q140, .inl (ca 0, 8, .inl f140))] ++ [(q279, .inl (ca 0, 24, .inl f))]) := ⟨_, gF_nil, hP279, hD279⟩
  have hP279 : va_P D cls [(a0, .inr (14, rg 107 f278)), (q2, .inl (ca 2, 3000, .inl f2)), (q4, .inl (ca 2, 20, .inl f4)), (q6, .inl (ca 5, 2, .inr (.inr (.inr (.inr f12))))), (q7, .inr (13, rg 81 x8_0)), (q10, .inr (13, rg 81 x11_0)), (q14, .inr (13, rg 81 x15_0)), (q17, .inl (ca 0, 3001, .inl f17)), (q19, .inl (ca 0, 3001, .inl f19)), (q140, .inl (ca 0, 8, .inl f140)), (q279, .inl (ca 0, 24, .inl f279))] H279 := hP279
  have hD279 : va_D A [(a0, .inr (14, rg 107 f278)), (q2, .inl (ca 2, 3000, .inl f2)), (q4, .inl (ca 2, 20, .inl f4)), (q6, .inl (ca 5, 2, .inr (.inr (.inr (.inr f12))))), (q7, .inr (13, rg 81 x8_0)), (q10, .inr (13, rg 81 x11_0)), (q14, .inr (13, rg 81 x15_0)), (q17, .inl (ca 0, 3001, .inl f17)), (q19, .inl (ca 0, 3001, .inl f19)), (q140, .inl (ca 0, 8, .inl f140)), (q279, .inl (ca 0, 24, .inl f279))] := hD279
  refine W.widen (k := 246) (n := 654985) (Nat.le_of_ble_eq_true rfl) (Nat.le_of_ble_eq_true rfl) ?_
  refine lv_dup hx hb d_15_11_1406 rfl ?_
  refine lv_iconst (v := 0) hx hb d_15_11_1407 (by decide) ?_
  refine lv_sipush (v := 635) hx hb d_15_11_1408 (by decide) ?_
  refine gast hx hb hK hP279 hD279 hS279 10 0 rfl rfl hF279 (k := 0) (by decide) (vinC (by decide)) d_15_11_1411 (L' := [(0, 635)]) rfl (fun f280 H280 locs280 hF280 hP280 hD280 hS280 => ?_)
  have hP280 : va_P D cls [(a0, .inr (14, rg 107 f278)), (q2, .inl (ca 2, 3000, .inl f2)), (q4, .inl (ca 2, 20, .inl f4)), (q6, .inl (ca 5, 2, .inr (.inr (.inr (.inr f12))))), (q7, .inr (13, rg 81 x8_0)), (q10, .inr (13, rg 81 x11_0)), (q14, .inr (13, rg 81 x15_0)), (q17, .inl (ca 0, 3001, .inl f17)), (q19, .inl (ca 0, 3001, .inl f19)), (q140, .inl (ca 0, 8, .inl f140)), (q279, .inl (ca 0, 24, .inl f280))] H280 := hP280
  have hD280 : va_D A [(a0, .inr (14, rg 107 f278)), (q2, .inl (ca 2, 3000, .inl f2)), (q4, .inl (ca 2, 20, .inl f4)), (q6, .inl (ca 5, 2, .inr (.inr (.inr (.inr f12))))), (q7, .inr (13, rg 81 x8_0)), (q10, .inr (13, rg 81 x11_0)), (q14, .inr (13, rg 81 x15_0)), (q17, .inl (ca 0, 3001, .inl f17)), (q19, .inl (ca 0, 3001, .inl f19)), (q140, .inl (ca 0, 8, .inl f140)), (q279, .inl (ca 0, 24, .inl f280))] := hD280
  clear hP279 hD279 hS279 hF279
  refine lv_dup hx hb d_15_11_1412 rfl ?_
  refine lv_iconst (v := 1) hx hb d_15_11_1413 (by decide) ?_
  refine lv_sipush (v := 223) hx hb d_15_11_1414 (by decide) ?_
  refine gast hx hb hK hP280 hD280 hS280 10 0 rfl rfl hF280 (k := 1) (by decide) (vinC (by decide)) d_15_11_1417 (L' := [(1, 223), (0, 635)]) rfl (fun f281 H281 locs281 hF281 hP281 hD281 hS281 => ?_)
  have hP281 : va_P D cls [(a0, .inr (14, rg 107 f278)), (q2, .inl (ca 2, 3000, .inl f2)), (q4, .inl (ca 2, 20, .inl f4)), (q6, .inl (ca 5, 2, .inr (.inr (.inr (.inr f12))))), (q7, .inr (13, rg 81 x8_0)), (q10, .inr (13, rg 81 x11_0)), (q14, .inr (13, rg 81 x15_0)), (q17, .inl (ca 0, 3001, .inl f17)), (q19, .inl (ca 0, 3001, .inl f19)), (q140, .inl (ca 0, 8, .inl f140)), (q279, .inl (ca 0, 24, .inl f281))] H281 := hP281
  have hD281 : va_D A [(a0, .inr (14, rg 107 f278)), (q2, .inl (ca 2, 3000, .inl f2)), (q4, .inl (ca 2, 20, .inl f4)), (q6, .inl (ca 5, 2, .inr (.inr (.inr (.inr f12))))), (q7, .inr (13, rg 81 x8_0)), (q10, .inr (13, rg 81 x11_0)), (q14, .inr (13, rg 81 x15_0)), (q17, .inl (ca 0, 3001, .inl f17)), (q19, .inl (ca 0, 3001, .inl f19)), (q140, .inl (ca 0, 8, .inl f140)), (q279, .inl (ca 0, 24, .inl f281))] := hD281
  clear hP280 hD280 hS280 hF280
  refine lv_dup hx hb d_15_11_1418 rfl ?_
  refine lv_iconst (v := 2) hx hb d_15_11_1419 (by decide) ?_
  refine lv_sipush (v := 348) hx hb d_15_11_1420 (by decide) ?_
  refine gast hx hb hK hP281 hD281 hS281 10 0 rfl rfl hF281 (k := 2) (by decide) (vinC (by decide)) d_15_11_1423 (L' := [(2, 348), (1, 223), (0, 635)]) rfl (fun f282 H282 locs282 hF282 hP282 hD282 hS282 => ?_)
  have hP282 : va_P D cls [(a0, .inr (14, rg 107 f278)), (q2, .inl (ca 2, 3000, .inl f2)), (q4, .inl (ca 2, 20, .inl f4)), (q6, .inl (ca 5, 2, .inr (.inr (.inr (.inr f12))))), (q7, .inr (13, rg 81 x8_0)), (q10, .inr (13, rg 81 x11_0)), (q14, .inr (13, rg 81 x15_0)), (q17, .inl (ca 0, 3001, .inl f17)), (q19, .inl (ca 0, 3001, .inl f19)), (q140, .inl (ca 0, 8, .inl f140)), (q279, .inl (ca 0, 24, .inl f282))] H282 := hP282
  have hD282 : va_D A [(a0, .inr (14, rg 107 f278)), (q2, .inl (ca 2, 3000, .inl f2)), (q4, .inl (ca 2, 20, .inl f4)), (q6, .inl (ca 5, 2, .inr (.inr (.inr (.inr f12))))), (q7, .inr (13, rg 81 x8_0)), (q10, .inr (13, rg 81 x11_0)), (q14, .inr (13, rg 81 x15_0)), (q17, .inl (ca 0, 3001, .inl f17)), (q19, .inl (ca 0, 3001, .inl f19)), (q140, .inl (ca 0, 8, .inl f140)), (q279, .inl (ca 0, 24, .inl f282))] := hD282
  clear hP281 hD281 hS281 hF281
  refine lv_dup hx hb d_15_11_1424 rfl ?_
  refine lv_iconst (v := 3) hx hb d_15_11_1425 (by decide) ?_
  refine lv_sipush (v := 233) hx hb d_15_11_1426 (by decide) ?_
  refine gast hx hb hK hP282 hD282 hS282 10 0 rfl rfl hF282 (k := 3) (by decide) (vinC (by decide)) d_15_11_1429 (L' := [(3, 233), (2, 348), (1, 223), (0, 635)]) rfl (fun f283 H283 locs283 hF283 hP283 hD283 hS283 => ?_)
  have hP283 : va_P D cls [(a0, .inr (14, rg 107 f278)), (q2, .inl (ca 2, 3000, .inl f2)), (q4, .inl (ca 2, 20, .inl f4)), (q6, .inl (ca 5, 2, .inr (.inr (.inr (.inr f12))))), (q7, .inr (13, rg 81 x8_0)), (q10, .inr (13, rg 81 x11_0)), (q14, .inr (13, rg 81 x15_0)), (q17, .inl (ca 0, 3001, .inl f17)), (q19, .inl (ca 0, 3001, .inl f19)), (q140, .inl (ca 0, 8, .inl f140)), (q279, .inl (ca 0, 24, .inl f283))] H283 := hP283
  have hD283 : va_D A [(a0, .inr (14, rg 107 f278)), (q2, .inl (ca 2, 3000, .inl f2)), (q4, .inl (ca 2, 20, .inl f4)), (q6, .inl (ca 5, 2, .inr (.inr (.inr (.inr f12))))), (q7, .inr (13, rg 81 x8_0)), (q10, .inr (13, rg 81 x11_0)), (q14, .inr (13, rg 81 x15_0)), (q17, .inl (ca 0, 3001, .inl f17)), (q19, .inl (ca 0, 3001, .inl f19)), (q140, .inl (ca 0, 8, .inl f140)), (q279, .inl (ca 0, 24, .inl f283))] := hD283
  clear hP282 hD282 hS282 hF282
  refine lv_dup hx hb d_15_11_1430 rfl ?_
  refine lv_iconst (v := 4) hx hb d_15_11_1431 (by decide) ?_
  refine lv_sipush (v := 438) hx hb d_15_11_1432 (by decide) ?_
  refine gast hx hb hK hP283 hD283 hS283 10 0 rfl rfl hF283 (k := 4) (by decide) (vinC (by decide)) d_15_11_1435 (L' := [(4, 438), (3, 233), (2, 348), (1, 223), (0, 635)]) rfl (fun f284 H284 locs284 hF284 hP284 hD284 hS284 => ?_)
  have hP284 : va_P D cls [(a0, .inr (14, rg 107 f278)), (q2, .inl (ca 2, 3000, .inl f2)), (q4, .inl (ca 2, 20, .inl f4)), (q6, .inl (ca 5, 2, .inr (.inr (.inr (.inr f12))))), (q7, .inr (13, rg 81 x8_0)), (q10, .inr (13, rg 81 x11_0)), (q14, .inr (13, rg 81 x15_0)), (q17, .inl (ca 0, 3001, .inl f17)), (q19, .inl (ca 0, 3001, .inl f19)), (q140, .inl (ca 0, 8, .inl f140)), (q279, .inl (ca 0, 24, .inl f284))] H284 := hP284
  have hD284 : va_D A [(a0, .inr (14, rg 107 f278)), (q2, .inl (ca 2, 3000, .inl f2)), (q4, .inl (ca 2, 20, .inl f4)), (q6, .inl (ca 5, 2, .inr (.inr (.inr (.inr f12))))), (q7, .inr (13, rg 81 x8_0)), (q10, .inr (13, rg 81 x11_0)), (q14, .inr (13, rg 81 x15_0)), (q17, .inl (ca 0, 3001, .inl f17)), (q19, .inl (ca 0, 3001, .inl f19)), (q140, .inl (ca 0, 8, .inl f140)), (q279, .inl (ca 0, 24, .inl f284))] := hD284
  clear hP283 hD283 hS283 hF283
  refine lv_dup hx hb d_15_11_1436 rfl ?_
  refine lv_iconst (v := 5) hx hb d_15_11_1437 (by decide) ?_
  refine lv_sipush (v := 409) hx hb d_15_11_1438 (by decide) ?_
  refine gast hx hb hK hP284 hD284 hS284 10 0 rfl rfl hF284 (k := 5) (by decide) (vinC (by decide)) d_15_11_1441 (L' := [(5, 409), (4, 438), (3, 233), (2, 348), (1, 223), (0, 635)]) rfl (fun f285 H285 locs285 hF285 hP285 hD285 hS285 => ?_)
  have hP285 : va_P D cls [(a0, .inr (14, rg 107 f278)), (q2, .inl (ca 2, 3000, .inl f2)), (q4, .inl (ca 2, 20, .inl f4)), (q6, .inl (ca 5, 2, .inr (.inr (.inr (.inr f12))))), (q7, .inr (13, rg 81 x8_0)), (q10, .inr (13, rg 81 x11_0)), (q14, .inr (13, rg 81 x15_0)), (q17, .inl (ca 0, 3001, .inl f17)), (q19, .inl (ca 0, 3001, .inl f19)), (q140, .inl (ca 0, 8, .inl f140)), (q279, .inl (ca 0, 24, .inl f285))] H285 := hP285
  have hD285 : va_D A [(a0, .inr (14, rg 107 f278)), (q2, .inl (ca 2, 3000, .inl f2)), (q4, .inl (ca 2, 20, .inl f4)), (q6, .inl (ca 5, 2, .inr (.inr (.inr (.inr f12))))), (q7, .inr (13, rg 81 x8_0)), (q10, .inr (13, rg 81 x11_0)), (q14, .inr (13, rg 81 x15_0)), (q17, .inl (ca 0, 3001, .inl f17)), (q19, .inl (ca 0, 3001, .inl f19)), (q140, .inl (ca 0, 8, .inl f140)), (q279, .inl (ca 0, 24, .inl f285))] := hD285
  clear hP284 hD284 hS284 hF284
  refine lv_dup hx hb d_15_11_1442 rfl ?_
  refine lv_bipush (v := 6) hx hb d_15_11_1443 (by decide) ?_
  refine lv_sipush (v := 252) hx hb d_15_11_1445 (by decide) ?_
  refine gast hx hb hK hP285 hD285 hS285 10 0 rfl rfl hF285 (k := 6) (by decide) (vinC (by decide)) d_15_11_1448 (L' := [(6, 252), (5, 409), (4, 438), (3, 233), (2, 348), (1, 223), (0, 635)]) rfl (fun f286 H286 locs286 hF286 hP286 hD286 hS286 => ?_)
  have hP286 : va_P D cls [(a0, .inr (14, rg 107 f278)), (q2, .inl (ca 2, 3000, .inl f2)), (q4, .inl (ca 2, 20, .inl f4)), (q6, .inl (ca 5, 2, .inr (.inr (.inr (.inr f12))))), (q7, .inr (13, rg 81 x8_0)), (q10, .inr (13, rg 81 x11_0)), (q14, .inr (13, rg 81 x15_0)), (q17, .inl (ca 0, 3001, .inl f17)), (q19, .inl (ca 0, 3001, .inl f19)), (q140, .inl (ca 0, 8, .inl f140)), (q279, .inl (ca 0, 24, .inl f286))] H286 := hP286
  have hD286 : va_D A [(a0, .inr (14, rg 107 f278)), (q2, .inl (ca 2, 3000, .inl f2)), (q4, .inl (ca 2, 20, .inl f4)), (q6, .inl (ca 5, 2, .inr (.inr (.inr (.inr f12))))), (q7, .inr (13, rg 81 x8_0)), (q10, .inr (13, rg 81 x11_0)), (q14, .inr (13, rg 81 x15_0)), (q17, .inl (ca 0, 3001, .inl f17)), (q19, .inl (ca 0, 3001, .inl f19)), (q140, .inl (ca 0, 8, .inl f140)), (q279, .inl (ca 0, 24, .inl f286))] := hD286
  clear hP285 hD285 hS285 hF285
  refine lv_dup hx hb d_15_11_1449 rfl ?_
  refine lv_bipush (v := 7) hx hb d_15_11_1450 (by decide) ?_
  refine lv_sipush (v := 519) hx hb d_15_11_1452 (by decide) ?_
  refine gast hx hb hK hP286 hD286 hS286 10 0 rfl rfl hF286 (k := 7) (by decide) (vinC (by decide)) d_15_11_1455 (L' := [(7, 519), (6, 252), (5, 409), (4, 438), (3, 233), (2, 348), (1, 223), (0, 635)]) rfl (fun f287 H287 locs287 hF287 hP287 hD287 hS287 => ?_)
  have hP287 : va_P D cls [(a0, .inr (14, rg 107 f278)), (q2, .inl (ca 2, 3000, .inl f2)), (q4, .inl (ca 2, 20, .inl f4)), (q6, .inl (ca 5, 2, .inr (.inr (.inr (.inr f12))))), (q7, .inr (13, rg 81 x8_0)), (q10, .inr (13, rg 81 x11_0)), (q14, .inr (13, rg 81 x15_0)), (q17, .inl (ca 0, 3001, .inl f17)), (q19, .inl (ca 0, 3001, .inl f19)), (q140, .inl (ca 0, 8, .inl f140)), (q279, .inl (ca 0, 24, .inl f287))] H287 := hP287
  have hD287 : va_D A [(a0, .inr (14, rg 107 f278)), (q2, .inl (ca 2, 3000, .inl f2)), (q4, .inl (ca 2, 20, .inl f4)), (q6, .inl (ca 5, 2, .inr (.inr (.inr (.inr f12))))), (q7, .inr (13, rg 81 x8_0)), (q10, .inr (13, rg 81 x11_0)), (q14, .inr (13, rg 81 x15_0)), (q17, .inl (ca 0, 3001, .inl f17)), (q19, .inl (ca 0, 3001, .inl f19)), (q140, .inl (ca 0, 8, .inl f140)), (q279, .inl (ca 0, 24, .inl f287))] := hD287
  clear hP286 hD286 hS286 hF286
  refine lv_dup hx hb d_15_11_1456 rfl ?_
  refine lv_bipush (v := 8) hx hb d_15_11_1457 (by decide) ?_
  refine lv_sipush (v := 239) hx hb d_15_11_1459 (by decide) ?_
  refine gast hx hb hK hP287 hD287 hS287 10 0 rfl rfl hF287 (k := 8) (by decide) (vinC (by decide)) d_15_11_1462 (L' := [(8, 239), (7, 519), (6, 252), (5, 409), (4, 438), (3, 233), (2, 348), (1, 223), (0, 635)]) rfl (fun f288 H288 locs288 hF288 hP288 hD288 hS288 => ?_)
  have hP288 : va_P D cls [(a0, .inr (14, rg 107 f278)), (q2, .inl (ca 2, 3000, .inl f2)), (q4, .inl (ca 2, 20, .inl f4)), (q6, .inl (ca 5, 2, .inr (.inr (.inr (.inr f12))))), (q7, .inr (13, rg 81 x8_0)), (q10, .inr (13, rg 81 x11_0)), (q14, .inr (13, rg 81 x15_0)), (q17, .inl (ca 0, 3001, .inl f17)), (q19, .inl (ca 0, 3001, .inl f19)), (q140, .inl (ca 0, 8, .inl f140)), (q279, .inl (ca 0, 24, .inl f288))] H288 := hP288
  have hD288 : va_D A [(a0, .inr (14, rg 107 f278)), (q2, .inl (ca 2, 3000, .inl f2)), (q4, .inl (ca 2, 20, .inl f4)), (q6, .inl (ca 5, 2, .inr (.inr (.inr (.inr f12))))), (q7, .inr (13, rg 81 x8_0)), (q10, .inr (13, rg 81 x11_0)), (q14, .inr (13, rg 81 x15_0)), (q17, .inl (ca 0, 3001, .inl f17)), (q19, .inl (ca 0, 3001, .inl f19)), (q140, .inl (ca 0, 8, .inl f140)), (q279, .inl (ca 0, 24, .inl f288))] := hD288
  clear hP287 hD287 hS287 hF287
  refine lv_dup hx hb d_15_11_1463 rfl ?_
  refine lv_bipush (v := 9) hx hb d_15_11_1464 (by decide) ?_
  refine lv_sipush (v := 366) hx hb d_15_11_1466 (by decide) ?_
  refine gast hx hb hK hP288 hD288 hS288 10 0 rfl rfl hF288 (k := 9) (by decide) (vinC (by decide)) d_15_11_1469 (L' := [(9, 366), (8, 239), (7, 519), (6, 252), (5, 409), (4, 438), (3, 233), (2, 348), (1, 223), (0, 635)]) rfl (fun f289 H289 locs289 hF289 hP289 hD289 hS289 => ?_)
  have hP289 : va_P D cls [(a0, .inr (14, rg 107 f278)), (q2, .inl (ca 2, 3000, .inl f2)), (q4, .inl (ca 2, 20, .inl f4)), (q6, .inl (ca 5, 2, .inr (.inr (.inr (.inr f12))))), (q7, .inr (13, rg 81 x8_0)), (q10, .inr (13, rg 81 x11_0)), (q14, .inr (13, rg 81 x15_0)), (q17, .inl (ca 0, 3001, .inl f17)), (q19, .inl (ca 0, 3001, .inl f19)), (q140, .inl (ca 0, 8, .inl f140)), (q279, .inl (ca 0, 24, .inl f289))] H289 := hP289
  have hD289 : va_D A [(a0, .inr (14, rg 107 f278)), (q2, .inl (ca 2, 3000, .inl f2)), (q4, .inl (ca 2, 20, .inl f4)), (q6, .inl (ca 5, 2, .inr (.inr (.inr (.inr f12))))), (q7, .inr (13, rg 81 x8_0)), (q10, .inr (13, rg 81 x11_0)), (q14, .inr (13, rg 81 x15_0)), (q17, .inl (ca 0, 3001, .inl f17)), (q19, .inl (ca 0, 3001, .inl f19)), (q140, .inl (ca 0, 8, .inl f140)), (q279, .inl (ca 0, 24, .inl f289))] := hD289
  clear hP288 hD288 hS288 hF288
  refine lv_dup hx hb d_15_11_1470 rfl ?_
  refine lv_bipush (v := 10) hx hb d_15_11_1471 (by decide) ?_
  refine lv_sipush (v := 229) hx hb d_15_11_1473 (by decide) ?_
  refine gast hx hb hK hP289 hD289 hS289 10 0 rfl rfl hF289 (k := 10) (by decide) (vinC (by decide)) d_15_11_1476 (L' := [(10, 229), (9, 366), (8, 239), (7, 519), (6, 252), (5, 409), (4, 438), (3, 233), (2, 348), (1, 223), (0, 635)]) rfl (fun f290 H290 locs290 hF290 hP290 hD290 hS290 => ?_)
  have hP290 : va_P D cls [(a0, .inr (14, rg 107 f278)), (q2, .inl (ca 2, 3000, .inl f2)), (q4, .inl (ca 2, 20, .inl f4)), (q6, .inl (ca 5, 2, .inr (.inr (.inr (.inr f12))))), (q7, .inr (13, rg 81 x8_0)), (q10, .inr (13, rg 81 x11_0)), (q14, .inr (13, rg 81 x15_0)), (q17, .inl (ca 0, 3001, .inl f17)), (q19, .inl (ca 0, 3001, .inl f19)), (q140, .inl (ca 0, 8, .inl f140)), (q279, .inl (ca 0, 24, .inl f290))] H290 := hP290
  have hD290 : va_D A [(a0, .inr (14, rg 107 f278)), (q2, .inl (ca 2, 3000, .inl f2)), (q4, .inl (ca 2, 20, .inl f4)), (q6, .inl (ca 5, 2, .inr (.inr (.inr (.inr f12))))), (q7, .inr (13, rg 81 x8_0)), (q10, .inr (13, rg 81 x11_0)), (q14, .inr (13, rg 81 x15_0)), (q17, .inl (ca 0, 3001, .inl f17)), (q19, .inl (ca 0, 3001, .inl f19)), (q140, .inl (ca 0, 8, .inl f140)), (q279, .inl (ca 0, 24, .inl f290))] := hD290
  clear hP289 hD289 hS289 hF289
  refine lv_dup hx hb d_15_11_1477 rfl ?_
  refine lv_bipush (v := 11) hx hb d_15_11_1478 (by decide) ?_
  refine lv_sipush (v := 288) hx hb d_15_11_1480 (by decide) ?_
  refine gast hx hb hK hP290 hD290 hS290 10 0 rfl rfl hF290 (k := 11) (by decide) (vinC (by decide)) d_15_11_1483 (L' := [(11, 288), (10, 229), (9, 366), (8, 239), (7, 519), (6, 252), (5, 409), (4, 438), (3, 233), (2, 348), (1, 223), (0, 635)]) rfl (fun f291 H291 locs291 hF291 hP291 hD291 hS291 => ?_)
  have hP291 : va_P D cls [(a0, .inr (14, rg 107 f278)), (q2, .inl (ca 2, 3000, .inl f2)), (q4, .inl (ca 2, 20, .inl f4)), (q6, .inl (ca 5, 2, .inr (.inr (.inr (.inr f12))))), (q7, .inr (13, rg 81 x8_0)), (q10, .inr (13, rg 81 x11_0)), (q14, .inr (13, rg 81 x15_0)), (q17, .inl (ca 0, 3001, .inl f17)), (q19, .inl (ca 0, 3001, .inl f19)), (q140, .inl (ca 0, 8, .inl f140)), (q279, .inl (ca 0, 24, .inl f291))] H291 := hP291
  have hD291 : va_D A [(a0, .inr (14, rg 107 f278)), (q2, .inl (ca 2, 3000, .inl f2)), (q4, .inl (ca 2, 20, .inl f4)), (q6, .inl (ca 5, 2, .inr (.inr (.inr (.inr f12))))), (q7, .inr (13, rg 81 x8_0)), (q10, .inr (13, rg 81 x11_0)), (q14, .inr (13, rg 81 x15_0)), (q17, .inl (ca 0, 3001, .inl f17)), (q19, .inl (ca 0, 3001, .inl f19)), (q140, .inl (ca 0, 8, .inl f140)), (q279, .inl (ca 0, 24, .inl f291))] := hD291
  clear hP290 hD290 hS290 hF290
  refine lv_dup hx hb d_15_11_1484 rfl ?_
  refine lv_bipush (v := 12) hx hb d_15_11_1485 (by decide) ?_
  refine lv_sipush (v := 633) hx hb d_15_11_1487 (by decide) ?_
  refine gast hx hb hK hP291 hD291 hS291 10 0 rfl rfl hF291 (k := 12) (by decide) (vinC (by decide)) d_15_11_1490 (L' := [(12, 633), (11, 288), (10, 229), (9, 366), (8, 239), (7, 519), (6, 252), (5, 409), (4, 438), (3, 233), (2, 348), (1, 223), (0, 635)]) rfl (fun f292 H292 locs292 hF292 hP292 hD292 hS292 => ?_)
  have hP292 : va_P D cls [(a0, .inr (14, rg 107 f278)), (q2, .inl (ca 2, 3000, .inl f2)), (q4, .inl (ca 2, 20, .inl f4)), (q6, .inl (ca 5, 2, .inr (.inr (.inr (.inr f12))))), (q7, .inr (13, rg 81 x8_0)), (q10, .inr (13, rg 81 x11_0)), (q14, .inr (13, rg 81 x15_0)), (q17, .inl (ca 0, 3001, .inl f17)), (q19, .inl (ca 0, 3001, .inl f19)), (q140, .inl (ca 0, 8, .inl f140)), (q279, .inl (ca 0, 24, .inl f292))] H292 := hP292
  have hD292 : va_D A [(a0, .inr (14, rg 107 f278)), (q2, .inl (ca 2, 3000, .inl f2)), (q4, .inl (ca 2, 20, .inl f4)), (q6, .inl (ca 5, 2, .inr (.inr (.inr (.inr f12))))), (q7, .inr (13, rg 81 x8_0)), (q10, .inr (13, rg 81 x11_0)), (q14, .inr (13, rg 81 x15_0)), (q17, .inl (ca 0, 3001, .inl f17)), (q19, .inl (ca 0, 3001, .inl f19)), (q140, .inl (ca 0, 8, .inl f140)), (q279, .inl (ca 0, 24, .inl f292))] := hD292
  clear hP291 hD291 hS291 hF291
  refine lv_dup hx hb d_15_11_1491 rfl ?_
  refine lv_bipush (v := 13) hx hb d_15_11_1492 (by decide) ?_
  refine lv_sipush (v := 268) hx hb d_15_11_1494 (by decide) ?_
  refine gast hx hb hK hP292 hD292 hS292 10 0 rfl rfl hF292 (k := 13) (by decide) (vinC (by decide)) d_15_11_1497 (L' := [(13, 268), (12, 633), (11, 288), (10, 229), (9, 366), (8, 239), (7, 519), (6, 252), (5, 409), (4, 438), (3, 233), (2, 348), (1, 223), (0, 635)]) rfl (fun f293 H293 locs293 hF293 hP293 hD293 hS293 => ?_)
  have hP293 : va_P D cls [(a0, .inr (14, rg 107 f278)), (q2, .inl (ca 2, 3000, .inl f2)), (q4, .inl (ca 2, 20, .inl f4)), (q6, .inl (ca 5, 2, .inr (.inr (.inr (.inr f12))))), (q7, .inr (13, rg 81 x8_0)), (q10, .inr (13, rg 81 x11_0)), (q14, .inr (13, rg 81 x15_0)), (q17, .inl (ca 0, 3001, .inl f17)), (q19, .inl (ca 0, 3001, .inl f19)), (q140, .inl (ca 0, 8, .inl f140)), (q279, .inl (ca 0, 24, .inl f293))] H293 := hP293
  have hD293 : va_D A [(a0, .inr (14, rg 107 f278)), (q2, .inl (ca 2, 3000, .inl f2)), (q4, .inl (ca 2, 20, .inl f4)), (q6, .inl (ca 5, 2, .inr (.inr (.inr (.inr f12))))), (q7, .inr (13, rg 81 x8_0)), (q10, .inr (13, rg 81 x11_0)), (q14, .inr (13, rg 81 x15_0)), (q17, .inl (ca 0, 3001, .inl f17)), (q19, .inl (ca 0, 3001, .inl f19)), (q140, .inl (ca 0, 8, .inl f140)), (q279, .inl (ca 0, 24, .inl f293))] := hD293
  clear hP292 hD292 hS292 hF292
  refine lv_dup hx hb d_15_11_1498 rfl ?_
  refine lv_bipush (v := 14) hx hb d_15_11_1499 (by decide) ?_
  refine lv_sipush (v := 352) hx hb d_15_11_1501 (by decide) ?_
  refine gast hx hb hK hP293 hD293 hS293 10 0 rfl rfl hF293 (k := 14) (by decide) (vinC (by decide)) d_15_11_1504 (L' := [(14, 352), (13, 268), (12, 633), (11, 288), (10, 229), (9, 366), (8, 239), (7, 519), (6, 252), (5, 409), (4, 438), (3, 233), (2, 348), (1, 223), (0, 635)]) rfl (fun f294 H294 locs294 hF294 hP294 hD294 hS294 => ?_)
  have hP294 : va_P D cls [(a0, .inr (14, rg 107 f278)), (q2, .inl (ca 2, 3000, .inl f2)), (q4, .inl (ca 2, 20, .inl f4)), (q6, .inl (ca 5, 2, .inr (.inr (.inr (.inr f12))))), (q7, .inr (13, rg 81 x8_0)), (q10, .inr (13, rg 81 x11_0)), (q14, .inr (13, rg 81 x15_0)), (q17, .inl (ca 0, 3001, .inl f17)), (q19, .inl (ca 0, 3001, .inl f19)), (q140, .inl (ca 0, 8, .inl f140)), (q279, .inl (ca 0, 24, .inl f294))] H294 := hP294
  have hD294 : va_D A [(a0, .inr (14, rg 107 f278)), (q2, .inl (ca 2, 3000, .inl f2)), (q4, .inl (ca 2, 20, .inl f4)), (q6, .inl (ca 5, 2, .inr (.inr (.inr (.inr f12))))), (q7, .inr (13, rg 81 x8_0)), (q10, .inr (13, rg 81 x11_0)), (q14, .inr (13, rg 81 x15_0)), (q17, .inl (ca 0, 3001, .inl f17)), (q19, .inl (ca 0, 3001, .inl f19)), (q140, .inl (ca 0, 8, .inl f140)), (q279, .inl (ca 0, 24, .inl f294))] := hD294
  clear hP293 hD293 hS293 hF293
  refine lv_dup hx hb d_15_11_1505 rfl ?_
  refine lv_bipush (v := 15) hx hb d_15_11_1506 (by decide) ?_
  refine lv_sipush (v := 538) hx hb d_15_11_1508 (by decide) ?_
  refine gast hx hb hK hP294 hD294 hS294 10 0 rfl rfl hF294 (k := 15) (by decide) (vinC (by decide)) d_15_11_1511 (L' := [(15, 538), (14, 352), (13, 268), (12, 633), (11, 288), (10, 229), (9, 366), (8, 239), (7, 519), (6, 252), (5, 409), (4, 438), (3, 233), (2, 348), (1, 223), (0, 635)]) rfl (fun f295 H295 locs295 hF295 hP295 hD295 hS295 => ?_)
  have hP295 : va_P D cls [(a0, .inr (14, rg 107 f278)), (q2, .inl (ca 2, 3000, .inl f2)), (q4, .inl (ca 2, 20, .inl f4)), (q6, .inl (ca 5, 2, .inr (.inr (.inr (.inr f12))))), (q7, .inr (13, rg 81 x8_0)), (q10, .inr (13, rg 81 x11_0)), (q14, .inr (13, rg 81 x15_0)), (q17, .inl (ca 0, 3001, .inl f17)), (q19, .inl (ca 0, 3001, .inl f19)), (q140, .inl (ca 0, 8, .inl f140)), (q279, .inl (ca 0, 24, .inl f295))] H295 := hP295
  have hD295 : va_D A [(a0, .inr (14, rg 107 f278)), (q2, .inl (ca 2, 3000, .inl f2)), (q4, .inl (ca 2, 20, .inl f4)), (q6, .inl (ca 5, 2, .inr (.inr (.inr (.inr f12))))), (q7, .inr (13, rg 81 x8_0)), (q10, .inr (13, rg 81 x11_0)), (q14, .inr (13, rg 81 x15_0)), (q17, .inl (ca 0, 3001, .inl f17)), (q19, .inl (ca 0, 3001, .inl f19)), (q140, .inl (ca 0, 8, .inl f140)), (q279, .inl (ca 0, 24, .inl f295))] := hD295
  clear hP294 hD294 hS294 hF294
  refine lv_dup hx hb d_15_11_1512 rfl ?_
  refine lv_bipush (v := 16) hx hb d_15_11_1513 (by decide) ?_
  refine lv_sipush (v := 260) hx hb d_15_11_1515 (by decide) ?_
  refine gast hx hb hK hP295 hD295 hS295 10 0 rfl rfl hF295 (k := 16) (by decide) (vinC (by decide)) d_15_11_1518 (L' := [(16, 260), (15, 538), (14, 352), (13, 268), (12, 633), (11, 288), (10, 229), (9, 366), (8, 239), (7, 519), (6, 252), (5, 409), (4, 438), (3, 233), (2, 348), (1, 223), (0, 635)]) rfl (fun f296 H296 locs296 hF296 hP296 hD296 hS296 => ?_)
  have hP296 : va_P D cls [(a0, .inr (14, rg 107 f278)), (q2, .inl (ca 2, 3000, .inl f2)), (q4, .inl (ca 2, 20, .inl f4)), (q6, .inl (ca 5, 2, .inr (.inr (.inr (.inr f12))))), (q7, .inr (13, rg 81 x8_0)), (q10, .inr (13, rg 81 x11_0)), (q14, .inr (13, rg 81 x15_0)), (q17, .inl (ca 0, 3001, .inl f17)), (q19, .inl (ca 0, 3001, .inl f19)), (q140, .inl (ca 0, 8, .inl f140)), (q279, .inl (ca 0, 24, .inl f296))] H296 := hP296
  have hD296 : va_D A [(a0, .inr (14, rg 107 f278)), (q2, .inl (ca 2, 3000, .inl f2)), (q4, .inl (ca 2, 20, .inl f4)), (q6, .inl (ca 5, 2, .inr (.inr (.inr (.inr f12))))), (q7, .inr (13, rg 81 x8_0)), (q10, .inr (13, rg 81 x11_0)), (q14, .inr (13, rg 81 x15_0)), (q17, .inl (ca 0, 3001, .inl f17)), (q19, .inl (ca 0, 3001, .inl f19)), (q140, .inl (ca 0, 8, .inl f140)), (q279, .inl (ca 0, 24, .inl f296))] := hD296
  clear hP295 hD295 hS295 hF295
  refine lv_dup hx hb d_15_11_1519 rfl ?_
  refine lv_bipush (v := 17) hx hb d_15_11_1520 (by decide) ?_
  refine lv_sipush (v := 353) hx hb d_15_11_1522 (by decide) ?_
  refine gast hx hb hK hP296 hD296 hS296 10 0 rfl rfl hF296 (k := 17) (by decide) (vinC (by decide)) d_15_11_1525 (L' := [(17, 353), (16, 260), (15, 538), (14, 352), (13, 268), (12, 633), (11, 288), (10, 229), (9, 366), (8, 239), (7, 519), (6, 252), (5, 409), (4, 438), (3, 233), (2, 348), (1, 223), (0, 635)]) rfl (fun f297 H297 locs297 hF297 hP297 hD297 hS297 => ?_)
  have hP297 : va_P D cls [(a0, .inr (14, rg 107 f278)), (q2, .inl (ca 2, 3000, .inl f2)), (q4, .inl (ca 2, 20, .inl f4)), (q6, .inl (ca 5, 2, .inr (.inr (.inr (.inr f12))))), (q7, .inr (13, rg 81 x8_0)), (q10, .inr (13, rg 81 x11_0)), (q14, .inr (13, rg 81 x15_0)), (q17, .inl (ca 0, 3001, .inl f17)), (q19, .inl (ca 0, 3001, .inl f19)), (q140, .inl (ca 0, 8, .inl f140)), (q279, .inl (ca 0, 24, .inl f297))] H297 := hP297
  have hD297 : va_D A [(a0, .inr (14, rg 107 f278)), (q2, .inl (ca 2, 3000, .inl f2)), (q4, .inl (ca 2, 20, .inl f4)), (q6, .inl (ca 5, 2, .inr (.inr (.inr (.inr f12))))), (q7, .inr (13, rg 81 x8_0)), (q10, .inr (13, rg 81 x11_0)), (q14, .inr (13, rg 81 x15_0)), (q17, .inl (ca 0, 3001, .inl f17)), (q19, .inl (ca 0, 3001, .inl f19)), (q140, .inl (ca 0, 8, .inl f140)), (q279, .inl (ca 0, 24, .inl f297))] := hD297
  clear hP296 hD296 hS296 hF296
  refine lv_dup hx hb d_15_11_1526 rfl ?_
  refine lv_bipush (v := 18) hx hb d_15_11_1527 (by decide) ?_
  refine lv_sipush (v := 254) hx hb d_15_11_1529 (by decide) ?_
  refine gast hx hb hK hP297 hD297 hS297 10 0 rfl rfl hF297 (k := 18) (by decide) (vinC (by decide)) d_15_11_1532 (L' := [(18, 254), (17, 353), (16, 260), (15, 538), (14, 352), (13, 268), (12, 633), (11, 288), (10, 229), (9, 366), (8, 239), (7, 519), (6, 252), (5, 409), (4, 438), (3, 233), (2, 348), (1, 223), (0, 635)]) rfl (fun f298 H298 locs298 hF298 hP298 hD298 hS298 => ?_)
  have hP298 : va_P D cls [(a0, .inr (14, rg 107 f278)), (q2, .inl (ca 2, 3000, .inl f2)), (q4, .inl (ca 2, 20, .inl f4)), (q6, .inl (ca 5, 2, .inr (.inr (.inr (.inr f12))))), (q7, .inr (13, rg 81 x8_0)), (q10, .inr (13, rg 81 x11_0)), (q14, .inr (13, rg 81 x15_0)), (q17, .inl (ca 0, 3001, .inl f17)), (q19, .inl (ca 0, 3001, .inl f19)), (q140, .inl (ca 0, 8, .inl f140)), (q279, .inl (ca 0, 24, .inl f298))] H298 := hP298
  have hD298 : va_D A [(a0, .inr (14, rg 107 f278)), (q2, .inl (ca 2, 3000, .inl f2)), (q4, .inl (ca 2, 20, .inl f4)), (q6, .inl (ca 5, 2, .inr (.inr (.inr (.inr f12))))), (q7, .inr (13, rg 81 x8_0)), (q10, .inr (13, rg 81 x11_0)), (q14, .inr (13, rg 81 x15_0)), (q17, .inl (ca 0, 3001, .inl f17)), (q19, .inl (ca 0, 3001, .inl f19)), (q140, .inl (ca 0, 8, .inl f140)), (q279, .inl (ca 0, 24, .inl f298))] := hD298
  clear hP297 hD297 hS297 hF297
  refine lv_dup hx hb d_15_11_1533 rfl ?_
  refine lv_bipush (v := 19) hx hb d_15_11_1534 (by decide) ?_
  refine lv_sipush (v := 475) hx hb d_15_11_1536 (by decide) ?_
  refine gast hx hb hK hP298 hD298 hS298 10 0 rfl rfl hF298 (k := 19) (by decide) (vinC (by decide)) d_15_11_1539 (L' := [(19, 475), (18, 254), (17, 353), (16, 260), (15, 538), (14, 352), (13, 268), (12, 633), (11, 288), (10, 229), (9, 366), (8, 239), (7, 519), (6, 252), (5, 409), (4, 438), (3, 233), (2, 348), (1, 223), (0, 635)]) rfl (fun f299 H299 locs299 hF299 hP299 hD299 hS299 => ?_)
  have hP299 : va_P D cls [(a0, .inr (14, rg 107 f278)), (q2, .inl (ca 2, 3000, .inl f2)), (q4, .inl (ca 2, 20, .inl f4)), (q6, .inl (ca 5, 2, .inr (.inr (.inr (.inr f12))))), (q7, .inr (13, rg 81 x8_0)), (q10, .inr (13, rg 81 x11_0)), (q14, .inr (13, rg 81 x15_0)), (q17, .inl (ca 0, 3001, .inl f17)), (q19, .inl (ca 0, 3001, .inl f19)), (q140, .inl (ca 0, 8, .inl f140)), (q279, .inl (ca 0, 24, .inl f299))] H299 := hP299
  have hD299 : va_D A [(a0, .inr (14, rg 107 f278)), (q2, .inl (ca 2, 3000, .inl f2)), (q4, .inl (ca 2, 20, .inl f4)), (q6, .inl (ca 5, 2, .inr (.inr (.inr (.inr f12))))), (q7, .inr (13, rg 81 x8_0)), (q10, .inr (13, rg 81 x11_0)), (q14, .inr (13, rg 81 x15_0)), (q17, .inl (ca 0, 3001, .inl f17)), (q19, .inl (ca 0, 3001, .inl f19)), (q140, .inl (ca 0, 8, .inl f140)), (q279, .inl (ca 0, 24, .inl f299))] := hD299
  clear hP298 hD298 hS298 hF298
  refine lv_dup hx hb d_15_11_1540 rfl ?_
  refine lv_bipush (v := 20) hx hb d_15_11_1541 (by decide) ?_
  refine lv_sipush (v := 398) hx hb d_15_11_1543 (by decide) ?_
  refine gast hx hb hK hP299 hD299 hS299 10 0 rfl rfl hF299 (k := 20) (by decide) (vinC (by decide)) d_15_11_1546 (L' := [(20, 398), (19, 475), (18, 254), (17, 353), (16, 260), (15, 538), (14, 352), (13, 268), (12, 633), (11, 288), (10, 229), (9, 366), (8, 239), (7, 519), (6, 252), (5, 409), (4, 438), (3, 233), (2, 348), (1, 223), (0, 635)]) rfl (fun f300 H300 locs300 hF300 hP300 hD300 hS300 => ?_)
  have hP300 : va_P D cls [(a0, .inr (14, rg 107 f278)), (q2, .inl (ca 2, 3000, .inl f2)), (q4, .inl (ca 2, 20, .inl f4)), (q6, .inl (ca 5, 2, .inr (.inr (.inr (.inr f12))))), (q7, .inr (13, rg 81 x8_0)), (q10, .inr (13, rg 81 x11_0)), (q14, .inr (13, rg 81 x15_0)), (q17, .inl (ca 0, 3001, .inl f17)), (q19, .inl (ca 0, 3001, .inl f19)), (q140, .inl (ca 0, 8, .inl f140)), (q279, .inl (ca 0, 24, .inl f300))] H300 := hP300
  have hD300 : va_D A [(a0, .inr (14, rg 107 f278)), (q2, .inl (ca 2, 3000, .inl f2)), (q4, .inl (ca 2, 20, .inl f4)), (q6, .inl (ca 5, 2, .inr (.inr (.inr (.inr f12))))), (q7, .inr (13, rg 81 x8_0)), (q10, .inr (13, rg 81 x11_0)), (q14, .inr (13, rg 81 x15_0)), (q17, .inl (ca 0, 3001, .inl f17)), (q19, .inl (ca 0, 3001, .inl f19)), (q140, .inl (ca 0, 8, .inl f140)), (q279, .inl (ca 0, 24, .inl f300))] := hD300
  clear hP299 hD299 hS299 hF299
  refine lv_dup hx hb d_15_11_1547 rfl ?_
  refine lv_bipush (v := 21) hx hb d_15_11_1548 (by decide) ?_
  refine lv_sipush (v := 269) hx hb d_15_11_1550 (by decide) ?_
  refine gast hx hb hK hP300 hD300 hS300 10 0 rfl rfl hF300 (k := 21) (by decide) (vinC (by decide)) d_15_11_1553 (L' := [(21, 269), (20, 398), (19, 475), (18, 254), (17, 353), (16, 260), (15, 538), (14, 352), (13, 268), (12, 633), (11, 288), (10, 229), (9, 366), (8, 239), (7, 519), (6, 252), (5, 409), (4, 438), (3, 233), (2, 348), (1, 223), (0, 635)]) rfl (fun f301 H301 locs301 hF301 hP301 hD301 hS301 => ?_)
  have hP301 : va_P D cls [(a0, .inr (14, rg 107 f278)), (q2, .inl (ca 2, 3000, .inl f2)), (q4, .inl (ca 2, 20, .inl f4)), (q6, .inl (ca 5, 2, .inr (.inr (.inr (.inr f12))))), (q7, .inr (13, rg 81 x8_0)), (q10, .inr (13, rg 81 x11_0)), (q14, .inr (13, rg 81 x15_0)), (q17, .inl (ca 0, 3001, .inl f17)), (q19, .inl (ca 0, 3001, .inl f19)), (q140, .inl (ca 0, 8, .inl f140)), (q279, .inl (ca 0, 24, .inl f301))] H301 := hP301
  have hD301 : va_D A [(a0, .inr (14, rg 107 f278)), (q2, .inl (ca 2, 3000, .inl f2)), (q4, .inl (ca 2, 20, .inl f4)), (q6, .inl (ca 5, 2, .inr (.inr (.inr (.inr f12))))), (q7, .inr (13, rg 81 x8_0)), (q10, .inr (13, rg 81 x11_0)), (q14, .inr (13, rg 81 x15_0)), (q17, .inl (ca 0, 3001, .inl f17)), (q19, .inl (ca 0, 3001, .inl f19)), (q140, .inl (ca 0, 8, .inl f140)), (q279, .inl (ca 0, 24, .inl f301))] := hD301
  clear hP300 hD300 hS300 hF300
  refine lv_dup hx hb d_15_11_1554 rfl ?_
  refine lv_bipush (v := 22) hx hb d_15_11_1555 (by decide) ?_
  refine lv_sipush (v := 334) hx hb d_15_11_1557 (by decide) ?_
  refine gast hx hb hK hP301 hD301 hS301 10 0 rfl rfl hF301 (k := 22) (by decide) (vinC (by decide)) d_15_11_1560 (L' := [(22, 334), (21, 269), (20, 398), (19, 475), (18, 254), (17, 353), (16, 260), (15, 538), (14, 352), (13, 268), (12, 633), (11, 288), (10, 229), (9, 366), (8, 239), (7, 519), (6, 252), (5, 409), (4, 438), (3, 233), (2, 348), (1, 223), (0, 635)]) rfl (fun f302 H302 locs302 hF302 hP302 hD302 hS302 => ?_)
  have hP302 : va_P D cls [(a0, .inr (14, rg 107 f278)), (q2, .inl (ca 2, 3000, .inl f2)), (q4, .inl (ca 2, 20, .inl f4)), (q6, .inl (ca 5, 2, .inr (.inr (.inr (.inr f12))))), (q7, .inr (13, rg 81 x8_0)), (q10, .inr (13, rg 81 x11_0)), (q14, .inr (13, rg 81 x15_0)), (q17, .inl (ca 0, 3001, .inl f17)), (q19, .inl (ca 0, 3001, .inl f19)), (q140, .inl (ca 0, 8, .inl f140)), (q279, .inl (ca 0, 24, .inl f302))] H302 := hP302
  have hD302 : va_D A [(a0, .inr (14, rg 107 f278)), (q2, .inl (ca 2, 3000, .inl f2)), (q4, .inl (ca 2, 20, .inl f4)), (q6, .inl (ca 5, 2, .inr (.inr (.inr (.inr f12))))), (q7, .inr (13, rg 81 x8_0)), (q10, .inr (13, rg 81 x11_0)), (q14, .inr (13, rg 81 x15_0)), (q17, .inl (ca 0, 3001, .inl f17)), (q19, .inl (ca 0, 3001, .inl f19)), (q140, .inl (ca 0, 8, .inl f140)), (q279, .inl (ca 0, 24, .inl f302))] := hD302
  clear hP301 hD301 hS301 hF301
  refine lv_dup hx hb d_15_11_1561 rfl ?_
  refine lv_bipush (v := 23) hx hb d_15_11_1562 (by decide) ?_
  refine lv_sipush (v := 317) hx hb d_15_11_1564 (by decide) ?_
  refine gast hx hb hK hP302 hD302 hS302 10 0 rfl rfl hF302 (k := 23) (by decide) (vinC (by decide)) d_15_11_1567 (L' := [(23, 317), (22, 334), (21, 269), (20, 398), (19, 475), (18, 254), (17, 353), (16, 260), (15, 538), (14, 352), (13, 268), (12, 633), (11, 288), (10, 229), (9, 366), (8, 239), (7, 519), (6, 252), (5, 409), (4, 438), (3, 233), (2, 348), (1, 223), (0, 635)]) rfl (fun f303 H303 locs303 hF303 hP303 hD303 hS303 => ?_)
  have hP303 : va_P D cls [(a0, .inr (14, rg 107 f278)), (q2, .inl (ca 2, 3000, .inl f2)), (q4, .inl (ca 2, 20, .inl f4)), (q6, .inl (ca 5, 2, .inr (.inr (.inr (.inr f12))))), (q7, .inr (13, rg 81 x8_0)), (q10, .inr (13, rg 81 x11_0)), (q14, .inr (13, rg 81 x15_0)), (q17, .inl (ca 0, 3001, .inl f17)), (q19, .inl (ca 0, 3001, .inl f19)), (q140, .inl (ca 0, 8, .inl f140)), (q279, .inl (ca 0, 24, .inl f303))] H303 := hP303
  have hD303 : va_D A [(a0, .inr (14, rg 107 f278)), (q2, .inl (ca 2, 3000, .inl f2)), (q4, .inl (ca 2, 20, .inl f4)), (q6, .inl (ca 5, 2, .inr (.inr (.inr (.inr f12))))), (q7, .inr (13, rg 81 x8_0)), (q10, .inr (13, rg 81 x11_0)), (q14, .inr (13, rg 81 x15_0)), (q17, .inl (ca 0, 3001, .inl f17)), (q19, .inl (ca 0, 3001, .inl f19)), (q140, .inl (ca 0, 8, .inl f140)), (q279, .inl (ca 0, 24, .inl f303))] := hD303
  clear hP302 hD302 hS302 hF302
  refine gputFX hx hb hts inW_14 tyX14 tyX14_ok nmX14 hown hK hP303 hD303 hS303 0 rfl rfl hF278 106 (by decide) k_11_104 rfl hnm rfl rfl rfl d_15_11_1568 (L' := [(74, .ref q140), (8, .ref q19), (7, .ref q17), (6, .ref q14), (5, .ref q6), (4, .ref q4), (2, .ref q2)]) rfl (fun f304 H304 locs304 hF304 hm304 hP304 hD304 hS304 => ?_)
  have hM304 := gM.tr hM278 hm304
  have hP304 : va_P D cls [(a0, .inr (14, rg 107 f304)), (q2, .inl (ca 2, 3000, .inl f2)), (q4, .inl (ca 2, 20, .inl f4)), (q6, .inl (ca 5, 2, .inr (.inr (.inr (.inr f12))))), (q7, .inr (13, rg 81 x8_0)), (q10, .inr (13, rg 81 x11_0)), (q14, .inr (13, rg 81 x15_0)), (q17, .inl (ca 0, 3001, .inl f17)), (q19, .inl (ca 0, 3001, .inl f19)), (q140, .inl (ca 0, 8, .inl f140)), (q279, .inl (ca 0, 24, .inl f303))] H304 := hP304
  have hD304 : va_D A [(a0, .inr (14, rg 107 f304)), (q2, .inl (ca 2, 3000, .inl f2)), (q4, .inl (ca 2, 20, .inl f4)), (q6, .inl (ca 5, 2, .inr (.inr (.inr (.inr f12))))), (q7, .inr (13, rg 81 x8_0)), (q10, .inr (13, rg 81 x11_0)), (q14, .inr (13, rg 81 x15_0)), (q17, .inl (ca 0, 3001, .inl f17)), (q19, .inl (ca 0, 3001, .inl f19)), (q140, .inl (ca 0, 8, .inl f140)), (q279, .inl (ca 0, 24, .inl f303))] := hD304
  clear hP303 hD303 hS303 hF278 hM278 hm304
  have hP305 := hP304.sub (ws' := [(a0, .inr (14, rg 107 f304)), (q2, .inl (ca 2, 3000, .inl f2)), (q4, .inl (ca 2, 20, .inl f4)), (q6, .inl (ca 5, 2, .inr (.inr (.inr (.inr f12))))), (q7, .inr (13, rg 81 x8_0)), (q10, .inr (13, rg 81 x11_0)), (q14, .inr (13, rg 81 x15_0)), (q17, .inl (ca 0, 3001, .inl f17)), (q19, .inl (ca 0, 3001, .inl f19)), (q140, .inl (ca 0, 8, .inl f140))]) [0, 1, 2, 3, 4, 5, 6, 7, 8, 9] rfl
  have hD305 := hD304.sub (ws' := [(a0, .inr (14, rg 107 f304)), (q2, .inl (ca 2, 3000, .inl f2)), (q4, .inl (ca 2, 20, .inl f4)), (q6, .inl (ca 5, 2, .inr (.inr (.inr (.inr f12))))), (q7, .inr (13, rg 81 x8_0)), (q10, .inr (13, rg 81 x11_0)), (q14, .inr (13, rg 81 x15_0)), (q17, .inl (ca 0, 3001, .inl f17)), (q19, .inl (ca 0, 3001, .inl f19)), (q140, .inl (ca 0, 8, .inl f140))]) [0, 1, 2, 3, 4, 5, 6, 7, 8, 9] (by decide) rfl
  have hP9 := hP305.sub (ws' := [(a0, .inr (14, rg 107 f304)), (q140, .inl (ca 0, 8, .inl f140)), (q19, .inl (ca 0, 3001, .inl f19)), (q17, .inl (ca 0, 3001, .inl f17)), (q14, .inr (13, rg 81 x15_0)), (q6, .inl (ca 5, 2, .inr (.inr (.inr (.inr f12))))), (q4, .inl (ca 2, 20, .inl f4)), (q2, .inl (ca 2, 3000, .inl f2)), (q10, .inr (13, rg 81 x11_0)), (q7, .inr (13, rg 81 x8_0))]) [0, 9, 8, 7, 6, 3, 2, 1, 5, 4] rfl
  have hD9 := hD305.sub (ws' := [(a0, .inr (14, rg 107 f304)), (q140, .inl (ca 0, 8, .inl f140)), (q19, .inl (ca 0, 3001, .inl f19)), (q17, .inl (ca 0, 3001, .inl f17)), (q14, .inr (13, rg 81 x15_0)), (q6, .inl (ca 5, 2, .inr (.inr (.inr (.inr f12))))), (q4, .inl (ca 2, 20, .inl f4)), (q2, .inl (ca 2, 3000, .inl f2)), (q10, .inr (13, rg 81 x11_0)), (q7, .inr (13, rg 81 x8_0))]) [0, 9, 8, 7, 6, 3, 2, 1, 5, 4] (by decide) rfl
  refine W.widen (k := 246) (n := 654985) (Nat.le_of_ble_eq_true rfl) (Nat.le_of_ble_eq_true rfl) ?_
  exact W.vret hx hb hr (fun t ht hW => ⟨⟨(f304, q140, f140, q19, f19, q17, f17, q14, x15_0, q6, f12, q4, f4, q2, f2, q10, x11_0, q7, x8_0), rfl, ⟨hM304.mono (by decide), hF304.sub [0, 1, 2, 3, 4, 5, 6] rfl, hF140.sub [] rfl, hF19.sub [] rfl, hF17.sub [] rfl, hF15_0.sub [0, 1] rfl, hF12.sub [0, 1] rfl, hF4.sub [] rfl, hF2.sub [] rfl, hF11_0.sub [0, 1] rfl, hF8_0.sub [0, 1] rfl⟩, by rw [ht]; exact hP9, va_K.moved hW.alike hK, hD9⟩, hS304.F ht⟩) hS304.2.2 d_15_11_1571
