theorem k_4_190 : (Jvm.Cond.instanceMethod ({ cls := "StaveHouse$Piece", name := "barLength", desc := "()J" } : Jvm.MethodName)) ∈ wAll := wA_4 (j := 190) rfl rfl
theorem k_4_191 : (Jvm.Cond.selects "StaveHouse$Piece" ({ cls := "StaveHouse$Piece", name := "barLength", desc := "()J" } : Jvm.MethodName) ({ cls := "StaveHouse$Piece", name := "barLength", desc := "()J" } : Jvm.MethodName)) ∈ wAll := wA_4 (j := 191) rfl rfl
theorem k_1_15 : (Jvm.Cond.initialized "StaveHouse$Piece") ∈ wAll := wA_1 (j := 15) rfl rfl
theorem k_4_192 : (Jvm.Cond.code ({ cls := "StaveHouse$Piece", name := "barLength", desc := "()J" } : Jvm.MethodName) prog_8_method_5_code (1 : Nat) (Option.some Jvm.ClassFile.FieldType.long)) ∈ wAll := wA_4 (j := 192) rfl rfl
theorem k_5_174 : (Jvm.Cond.methodLink "StaveHouse$Piece" (86 : Nat) ({ cls := "StaveHouse$Piece", name := "barLength", desc := "()J" } : Jvm.MethodName)) ∈ wAll := wA_5 (j := 174) rfl rfl
theorem k_5_175 : (Jvm.Cond.methodLink "StaveHouse$Piece" (90 : Nat) ({ cls := "java/lang/Math", name := "max", desc := "(JJ)J" } : Jvm.MethodName)) ∈ wAll := wA_5 (j := 175) rfl rfl
theorem k_5_176 : (Jvm.Cond.static ({ cls := "java/lang/Math", name := "max", desc := "(JJ)J" } : Jvm.MethodName)) ∈ wAll := wA_5 (j := 176) rfl rfl
theorem k_5_177 : (Jvm.Cond.code ({ cls := "java/lang/Math", name := "max", desc := "(JJ)J" } : Jvm.MethodName) prog_20_method_66_code (4 : Nat) (Option.some Jvm.ClassFile.FieldType.long)) ∈ wAll := wA_5 (j := 177) rfl rfl
theorem k_4_141 : (Jvm.Cond.fieldLink "StaveHouse$Piece" (80 : Nat) "StaveHouse$Part" "endPlace" "J") ∈ wAll := wA_4 (j := 141) rfl rfl
theorem k_4_126 : (Jvm.Cond.fieldLink "StaveHouse$Piece" (83 : Nat) "StaveHouse$Part" "token" "I") ∈ wAll := wA_4 (j := 126) rfl rfl
theorem k_2_130 : (Jvm.Cond.fieldLink "StaveHouse" (27 : Nat) "StaveHouse" "pieces" "[LStaveHouse$Piece;") ∈ wAll := wA_2 (j := 130) rfl rfl
theorem k_5_205 : (Jvm.Cond.fieldLink "StaveHouse$Study" (20 : Nat) "StaveHouse$Study" "eventsAt" "[[I") ∈ wAll := wA_5 (j := 205) rfl rfl
theorem k_6_8 : (Jvm.Cond.constantLong "StaveHouse$Study" (96 : Nat) (-1 : Int64)) ∈ wAll := wA_6 (j := 8) rfl rfl
theorem k_2_192 : (Jvm.Cond.fieldLink "StaveHouse$Study" (58 : Nat) "StaveHouse$Piece" "partCount" "I") ∈ wAll := wA_2 (j := 192) rfl rfl
theorem k_2_187 : (Jvm.Cond.fieldLink "StaveHouse$Study" (77 : Nat) "StaveHouse$Piece" "parts" "[LStaveHouse$Part;") ∈ wAll := wA_2 (j := 187) rfl rfl
theorem k_4_137 : (Jvm.Cond.fieldLink "StaveHouse$Study" (81 : Nat) "StaveHouse$Part" "eventCount" "I") ∈ wAll := wA_4 (j := 137) rfl rfl
theorem k_4_132 : (Jvm.Cond.fieldLink "StaveHouse$Study" (86 : Nat) "StaveHouse$Part" "events" "[LStaveHouse$Event;") ∈ wAll := wA_4 (j := 132) rfl rfl
theorem k_2_20 : (Jvm.Cond.fieldLink "StaveHouse$Study" (90 : Nat) "StaveHouse$Event" "place" "J") ∈ wAll := wA_2 (j := 20) rfl rfl
theorem k_5_207 : (Jvm.Cond.fieldLink "StaveHouse$Study" (27 : Nat) "StaveHouse$Study" "tones" "[I") ∈ wAll := wA_5 (j := 207) rfl rfl
theorem k_5_209 : (Jvm.Cond.fieldLink "StaveHouse$Study" (33 : Nat) "StaveHouse$Study" "oldTones" "[I") ∈ wAll := wA_5 (j := 209) rfl rfl
theorem k_5_210 : (Jvm.Cond.fieldLink "StaveHouse$Study" (36 : Nat) "StaveHouse$Study" "begins" "[Z") ∈ wAll := wA_5 (j := 210) rfl rfl
theorem k_5_206 : (Jvm.Cond.fieldLink "StaveHouse$Study" (23 : Nat) "StaveHouse$Study" "steps" "[I") ∈ wAll := wA_5 (j := 206) rfl rfl
theorem k_6_38 : (Jvm.Cond.methodLink "StaveHouse$Study" (130 : Nat) ({ cls := "java/lang/Math", name := "floorMod", desc := "(II)I" } : Jvm.MethodName)) ∈ wAll := wA_6 (j := 38) rfl rfl
theorem k_6_39 : (Jvm.Cond.methodLink "StaveHouse$Study" (127 : Nat) ({ cls := "java/lang/Math", name := "abs", desc := "(I)I" } : Jvm.MethodName)) ∈ wAll := wA_6 (j := 39) rfl rfl
theorem k_4_229 : (Jvm.Cond.static ({ cls := "java/lang/Math", name := "abs", desc := "(I)I" } : Jvm.MethodName)) ∈ wAll := wA_4 (j := 229) rfl rfl
theorem k_4_230 : (Jvm.Cond.code ({ cls := "java/lang/Math", name := "abs", desc := "(I)I" } : Jvm.MethodName) prog_20_method_59_code (1 : Nat) (Option.some Jvm.ClassFile.FieldType.int)) ∈ wAll := wA_4 (j := 230) rfl rfl
theorem k_5_201 : (Jvm.Cond.fieldLink "StaveHouse$Study" (47 : Nat) "StaveHouse$Study" "faults" "I") ∈ wAll := wA_5 (j := 201) rfl rfl
theorem k_5_203 : (Jvm.Cond.fieldLink "StaveHouse$Study" (17 : Nat) "StaveHouse$Study" "faultRows" "[[I") ∈ wAll := wA_5 (j := 203) rfl rfl
theorem k_5_208 : (Jvm.Cond.fieldLink "StaveHouse$Study" (30 : Nat) "StaveHouse$Study" "oldSteps" "[I") ∈ wAll := wA_5 (j := 208) rfl rfl
theorem k_6_48 : (Jvm.Cond.fieldLink "StaveHouse$Study" (133 : Nat) "StaveHouse$Study" "LEAST_TONES" "[I") ∈ wAll := wA_6 (j := 48) rfl rfl
theorem k_6_50 : (Jvm.Cond.fieldLink "StaveHouse$Study" (136 : Nat) "StaveHouse$Study" "MOST_TONES" "[I") ∈ wAll := wA_6 (j := 50) rfl rfl
theorem k_6_63 : (Jvm.Cond.fieldLink "StaveHouse$Performance" (36 : Nat) "StaveHouse$Performance" "count" "I") ∈ wAll := wA_6 (j := 63) rfl rfl
theorem k_6_65 : (Jvm.Cond.fieldLink "StaveHouse$Performance" (40 : Nat) "StaveHouse$Performance" "tooMany" "Z") ∈ wAll := wA_6 (j := 65) rfl rfl
theorem k_4_136 : (Jvm.Cond.fieldLink "StaveHouse$Performance" (56 : Nat) "StaveHouse$Part" "eventCount" "I") ∈ wAll := wA_4 (j := 136) rfl rfl
theorem k_4_131 : (Jvm.Cond.fieldLink "StaveHouse$Performance" (73 : Nat) "StaveHouse$Part" "events" "[LStaveHouse$Event;") ∈ wAll := wA_4 (j := 131) rfl rfl
theorem k_6_119 : (Jvm.Cond.methodLink "StaveHouse$Performance" (77 : Nat) ({ cls := "StaveHouse$Event", name := "has", desc := "(I)Z" } : Jvm.MethodName)) ∈ wAll := wA_6 (j := 119) rfl rfl
theorem k_6_129 : (Jvm.Cond.constantLong "StaveHouse$Performance" (92 : Nat) (384 : Int64)) ∈ wAll := wA_6 (j := 129) rfl rfl
theorem k_6_130 : (Jvm.Cond.constantLong "StaveHouse$Performance" (94 : Nat) (812851200 : Int64)) ∈ wAll := wA_6 (j := 130) rfl rfl
theorem k_6_76 : (Jvm.Cond.fieldLink "StaveHouse$Performance" (23 : Nat) "StaveHouse$Performance" "sounds" "[[I") ∈ wAll := wA_6 (j := 76) rfl rfl
theorem k_2_42 : (Jvm.Cond.fieldLink "StaveHouse$Performance" (96 : Nat) "StaveHouse$Event" "loud" "I") ∈ wAll := wA_2 (j := 42) rfl rfl
theorem k_6_134 : (Jvm.Cond.methodLink "StaveHouse$Performance" (99 : Nat) ({ cls := "java/lang/Math", name := "min", desc := "(II)I" } : Jvm.MethodName)) ∈ wAll := wA_6 (j := 134) rfl rfl
theorem k_2_59 : (Jvm.Cond.fieldLink "StaveHouse$Performance" (135 : Nat) "StaveHouse$Event" "steps" "[I") ∈ wAll := wA_2 (j := 59) rfl rfl
theorem k_2_64 : (Jvm.Cond.fieldLink "StaveHouse$Performance" (138 : Nat) "StaveHouse$Event" "alterations" "[I") ∈ wAll := wA_2 (j := 64) rfl rfl
theorem k_6_149 : (Jvm.Cond.methodLink "StaveHouse$Performance" (141 : Nat) ({ cls := "StaveHouse$Event", name := "hasPitch", desc := "(II)Z" } : Jvm.MethodName)) ∈ wAll := wA_6 (j := 149) rfl rfl
theorem k_2_56 : (Jvm.Cond.fieldLink "StaveHouse$Performance" (147 : Nat) "StaveHouse$Event" "slurred" "Z") ∈ wAll := wA_2 (j := 56) rfl rfl
theorem k_6_153 : (Jvm.Cond.methodLink "StaveHouse$Performance" (144 : Nat) ({ cls := "java/lang/Math", name := "max", desc := "(II)I" } : Jvm.MethodName)) ∈ wAll := wA_6 (j := 153) rfl rfl
theorem k_6_79 : (Jvm.Cond.fieldLink "StaveHouse$Performance" (33 : Nat) "StaveHouse$Performance" "keyTicks" "[J") ∈ wAll := wA_6 (j := 79) rfl rfl
theorem k_6_158 : (Jvm.Cond.constantLong "StaveHouse$Performance" (190 : Nat) (-1 : Int64)) ∈ wAll := wA_6 (j := 158) rfl rfl
theorem k_6_159 : (Jvm.Cond.methodLink "StaveHouse$Performance" (192 : Nat) ({ cls := "java/lang/Math", name := "floorMod", desc := "(II)I" } : Jvm.MethodName)) ∈ wAll := wA_6 (j := 159) rfl rfl
theorem k_6_162 : (Jvm.Cond.fieldLink "StaveHouse$Performance" (198 : Nat) "StaveHouse$Performance" "MINOR_WEIGHTS" "[I") ∈ wAll := wA_6 (j := 162) rfl rfl
theorem k_6_160 : (Jvm.Cond.fieldLink "StaveHouse$Performance" (195 : Nat) "StaveHouse$Performance" "MAJOR_WEIGHTS" "[I") ∈ wAll := wA_6 (j := 160) rfl rfl
theorem k_5_182 : (Jvm.Cond.methodLink "StaveHouse" (97 : Nat) ({ cls := "StaveHouse", name := "pieceAt", desc := "(I)LStaveHouse$Piece;" } : Jvm.MethodName)) ∈ wAll := wA_5 (j := 182) rfl rfl
theorem k_5_184 : (Jvm.Cond.instanceMethod ({ cls := "StaveHouse", name := "pieceAt", desc := "(I)LStaveHouse$Piece;" } : Jvm.MethodName)) ∈ wAll := wA_5 (j := 184) rfl rfl
theorem ks_65 : (Jvm.Cond.selects "StaveHouse" ({ cls := "StaveHouse", name := "pieceAt", desc := "(I)LStaveHouse$Piece;" } : Jvm.MethodName) ({ cls := "StaveHouse", name := "pieceAt", desc := "(I)LStaveHouse$Piece;" } : Jvm.MethodName)) ∈ wAll := wA_s (j := 65) rfl rfl
theorem k_5_185 : (Jvm.Cond.code ({ cls := "StaveHouse", name := "pieceAt", desc := "(I)LStaveHouse$Piece;" } : Jvm.MethodName) prog_1_method_6_code (2 : Nat) (Option.some (Jvm.ClassFile.FieldType.object "StaveHouse$Piece"))) ∈ wAll := wA_5 (j := 185) rfl rfl
theorem k_2_194 : (Jvm.Cond.fieldLink "StaveHouse" (75 : Nat) "StaveHouse$Piece" "partCount" "I") ∈ wAll := wA_2 (j := 194) rfl rfl
theorem k_2_189 : (Jvm.Cond.fieldLink "StaveHouse" (78 : Nat) "StaveHouse$Piece" "parts" "[LStaveHouse$Part;") ∈ wAll := wA_2 (j := 189) rfl rfl
theorem k_6_168 : (Jvm.Cond.methodLink "StaveHouse" (101 : Nat) ({ cls := "StaveHouse", name := "partAt", desc := "(II)LStaveHouse$Part;" } : Jvm.MethodName)) ∈ wAll := wA_6 (j := 168) rfl rfl
theorem k_6_170 : (Jvm.Cond.instanceMethod ({ cls := "StaveHouse", name := "partAt", desc := "(II)LStaveHouse$Part;" } : Jvm.MethodName)) ∈ wAll := wA_6 (j := 170) rfl rfl
theorem ks_77 : (Jvm.Cond.selects "StaveHouse" ({ cls := "StaveHouse", name := "partAt", desc := "(II)LStaveHouse$Part;" } : Jvm.MethodName) ({ cls := "StaveHouse", name := "partAt", desc := "(II)LStaveHouse$Part;" } : Jvm.MethodName)) ∈ wAll := wA_s (j := 77) rfl rfl
theorem k_6_171 : (Jvm.Cond.code ({ cls := "StaveHouse", name := "partAt", desc := "(II)LStaveHouse$Part;" } : Jvm.MethodName) prog_1_method_7_code (4 : Nat) (Option.some (Jvm.ClassFile.FieldType.object "StaveHouse$Part"))) ∈ wAll := wA_6 (j := 171) rfl rfl
theorem k_4_117 : (Jvm.Cond.fieldLink "StaveHouse" (183 : Nat) "StaveHouse$Part" "word" "J") ∈ wAll := wA_4 (j := 117) rfl rfl
theorem k_4_138 : (Jvm.Cond.fieldLink "StaveHouse" (105 : Nat) "StaveHouse$Part" "eventCount" "I") ∈ wAll := wA_4 (j := 138) rfl rfl
theorem k_4_133 : (Jvm.Cond.fieldLink "StaveHouse" (108 : Nat) "StaveHouse$Part" "events" "[LStaveHouse$Event;") ∈ wAll := wA_4 (j := 133) rfl rfl
theorem k_6_188 : (Jvm.Cond.constantLong "StaveHouse" (335 : Nat) (812851200 : Int64)) ∈ wAll := wA_6 (j := 188) rfl rfl
theorem k_6_189 : (Jvm.Cond.methodLink "StaveHouse" (337 : Nat) ({ cls := "StaveHouse", name := "gcd", desc := "(JJ)J" } : Jvm.MethodName)) ∈ wAll := wA_6 (j := 189) rfl rfl
theorem k_6_190 : (Jvm.Cond.static ({ cls := "StaveHouse", name := "gcd", desc := "(JJ)J" } : Jvm.MethodName)) ∈ wAll := wA_6 (j := 190) rfl rfl
theorem k_6_191 : (Jvm.Cond.code ({ cls := "StaveHouse", name := "gcd", desc := "(JJ)J" } : Jvm.MethodName) prog_1_method_34_code (11 : Nat) (Option.some Jvm.ClassFile.FieldType.long)) ∈ wAll := wA_6 (j := 191) rfl rfl
theorem k_6_221 : (Jvm.Cond.fieldLink "StaveHouse$Layout" (76 : Nat) "StaveHouse$Layout" "columns" "I") ∈ wAll := wA_6 (j := 221) rfl rfl
theorem k_6_222 : (Jvm.Cond.fieldLink "StaveHouse$Layout" (22 : Nat) "StaveHouse$Layout" "barFirsts" "[I") ∈ wAll := wA_6 (j := 222) rfl rfl
theorem k_7_34 : (Jvm.Cond.constantLong "StaveHouse$Layout" (118 : Nat) (-1 : Int64)) ∈ wAll := wA_7 (j := 34) rfl rfl
theorem k_4_149 : (Jvm.Cond.fieldLink "StaveHouse$Layout" (120 : Nat) "StaveHouse$Part" "noteCount" "I") ∈ wAll := wA_4 (j := 149) rfl rfl
theorem k_4_143 : (Jvm.Cond.fieldLink "StaveHouse$Layout" (111 : Nat) "StaveHouse$Part" "notes" "[[I") ∈ wAll := wA_4 (j := 143) rfl rfl
theorem k_6_218 : (Jvm.Cond.fieldLink "StaveHouse$Layout" (11 : Nat) "StaveHouse$Layout" "columnPlaces" "[J") ∈ wAll := wA_6 (j := 218) rfl rfl
theorem k_7_44 : (Jvm.Cond.constantLong "StaveHouse$Layout" (123 : Nat) (6350400 : Int64)) ∈ wAll := wA_7 (j := 44) rfl rfl
theorem k_7_45 : (Jvm.Cond.constantLong "StaveHouse$Layout" (125 : Nat) (2 : Int64)) ∈ wAll := wA_7 (j := 45) rfl rfl
theorem k_6_219 : (Jvm.Cond.fieldLink "StaveHouse$Layout" (15 : Nat) "StaveHouse$Layout" "columnWidths" "[I") ∈ wAll := wA_6 (j := 219) rfl rfl
theorem k_2_196 : (Jvm.Cond.fieldLink "StaveHouse$Layout" (127 : Nat) "StaveHouse$Piece" "fifths" "I") ∈ wAll := wA_2 (j := 196) rfl rfl
theorem k_7_53 : (Jvm.Cond.methodLink "StaveHouse$Layout" (130 : Nat) ({ cls := "java/lang/Math", name := "abs", desc := "(I)I" } : Jvm.MethodName)) ∈ wAll := wA_7 (j := 53) rfl rfl
theorem k_7_58 : (Jvm.Cond.constantLong "StaveHouse$Layout" (144 : Nat) (4 : Int64)) ∈ wAll := wA_7 (j := 58) rfl rfl
theorem k_7_50 : (Jvm.Cond.methodLink "StaveHouse$Layout" (134 : Nat) ({ cls := "StaveHouse$Layout", name := "lead", desc := "(LStaveHouse$Piece;I)I" } : Jvm.MethodName)) ∈ wAll := wA_7 (j := 50) rfl rfl
theorem k_7_51 : (Jvm.Cond.static ({ cls := "StaveHouse$Layout", name := "lead", desc := "(LStaveHouse$Piece;I)I" } : Jvm.MethodName)) ∈ wAll := wA_7 (j := 51) rfl rfl
theorem k_1_21 : (Jvm.Cond.initialized "StaveHouse$Layout") ∈ wAll := wA_1 (j := 21) rfl rfl
theorem k_7_52 : (Jvm.Cond.code ({ cls := "StaveHouse$Layout", name := "lead", desc := "(LStaveHouse$Piece;I)I" } : Jvm.MethodName) prog_4_method_8_code (2 : Nat) (Option.some Jvm.ClassFile.FieldType.int)) ∈ wAll := wA_7 (j := 52) rfl rfl
theorem k_6_223 : (Jvm.Cond.fieldLink "StaveHouse$Layout" (25 : Nat) "StaveHouse$Layout" "barWidths" "[I") ∈ wAll := wA_6 (j := 223) rfl rfl
theorem k_6_224 : (Jvm.Cond.fieldLink "StaveHouse$Layout" (28 : Nat) "StaveHouse$Layout" "lineFirsts" "[I") ∈ wAll := wA_6 (j := 224) rfl rfl
theorem k_7_38 : (Jvm.Cond.methodLink "StaveHouse$Layout" (115 : Nat) ({ cls := "java/lang/Math", name := "max", desc := "(II)I" } : Jvm.MethodName)) ∈ wAll := wA_7 (j := 38) rfl rfl
theorem k_6_215 : (Jvm.Cond.fieldLink "StaveHouse$Layout" (66 : Nat) "StaveHouse$Layout" "lineCount" "I") ∈ wAll := wA_6 (j := 215) rfl rfl
theorem k_6_225 : (Jvm.Cond.fieldLink "StaveHouse$Layout" (31 : Nat) "StaveHouse$Layout" "lineWidths" "[I") ∈ wAll := wA_6 (j := 225) rfl rfl
theorem k_6_220 : (Jvm.Cond.fieldLink "StaveHouse$Layout" (19 : Nat) "StaveHouse$Layout" "columnXs" "[I") ∈ wAll := wA_6 (j := 220) rfl rfl
theorem k_6_226 : (Jvm.Cond.fieldLink "StaveHouse$Layout" (34 : Nat) "StaveHouse$Layout" "linePrices" "[J") ∈ wAll := wA_6 (j := 226) rfl rfl
theorem k_6_83 : (Jvm.Cond.lays "StaveHouse$Performance" "StaveHouse$Performance" "count" "I") ∈ wAll := wA_6 (j := 83) rfl rfl
theorem k_6_85 : (Jvm.Cond.lays "StaveHouse$Performance" "StaveHouse$Performance" "tooMany" "Z") ∈ wAll := wA_6 (j := 85) rfl rfl
theorem k_6_87 : (Jvm.Cond.lays "StaveHouse$Performance" "StaveHouse$Performance" "made" "I") ∈ wAll := wA_6 (j := 87) rfl rfl
theorem k_6_89 : (Jvm.Cond.lays "StaveHouse$Performance" "StaveHouse$Performance" "latest" "I") ∈ wAll := wA_6 (j := 89) rfl rfl
theorem k_6_91 : (Jvm.Cond.laysFinal "StaveHouse$Performance" "StaveHouse$Performance" "heardRow" "[I") ∈ wAll := wA_6 (j := 91) rfl rfl
theorem k_6_93 : (Jvm.Cond.laysFinal "StaveHouse$Performance" "StaveHouse$Performance" "codeRow" "[I") ∈ wAll := wA_6 (j := 93) rfl rfl
theorem k_6_95 : (Jvm.Cond.laysFinal "StaveHouse$Performance" "StaveHouse$Performance" "mix" "[I") ∈ wAll := wA_6 (j := 95) rfl rfl
theorem k_6_97 : (Jvm.Cond.laysFinal "StaveHouse$Performance" "StaveHouse$Performance" "sounds" "[[I") ∈ wAll := wA_6 (j := 97) rfl rfl
theorem k_6_99 : (Jvm.Cond.lays "StaveHouse$Performance" "StaveHouse$Performance" "strokes" "[J") ∈ wAll := wA_6 (j := 99) rfl rfl
theorem k_6_101 : (Jvm.Cond.lays "StaveHouse$Performance" "StaveHouse$Performance" "otherStrokes" "[J") ∈ wAll := wA_6 (j := 101) rfl rfl
theorem k_6_103 : (Jvm.Cond.laysFinal "StaveHouse$Performance" "StaveHouse$Performance" "keyTicks" "[J") ∈ wAll := wA_6 (j := 103) rfl rfl
theorem k_6_105 : (Jvm.Cond.lays "StaveHouse$Performance" "StaveHouse$Performance" "heard" "I") ∈ wAll := wA_6 (j := 105) rfl rfl
theorem k_6_107 : (Jvm.Cond.lays "StaveHouse$Performance" "StaveHouse$Performance" "predicted" "I") ∈ wAll := wA_6 (j := 107) rfl rfl
theorem k_6_109 : (Jvm.Cond.lays "StaveHouse$Performance" "StaveHouse$Performance" "index" "I") ∈ wAll := wA_6 (j := 109) rfl rfl
theorem k_5_212 : (Jvm.Cond.lays "StaveHouse$Study" "StaveHouse$Study" "moments" "I") ∈ wAll := wA_5 (j := 212) rfl rfl
theorem k_5_214 : (Jvm.Cond.laysFinal "StaveHouse$Study" "StaveHouse$Study" "places" "[J") ∈ wAll := wA_5 (j := 214) rfl rfl
theorem k_5_216 : (Jvm.Cond.lays "StaveHouse$Study" "StaveHouse$Study" "faults" "I") ∈ wAll := wA_5 (j := 216) rfl rfl
theorem k_5_218 : (Jvm.Cond.laysFinal "StaveHouse$Study" "StaveHouse$Study" "faultRows" "[[I") ∈ wAll := wA_5 (j := 218) rfl rfl
theorem k_5_220 : (Jvm.Cond.laysFinal "StaveHouse$Study" "StaveHouse$Study" "eventsAt" "[[I") ∈ wAll := wA_5 (j := 220) rfl rfl
theorem k_5_222 : (Jvm.Cond.laysFinal "StaveHouse$Study" "StaveHouse$Study" "steps" "[I") ∈ wAll := wA_5 (j := 222) rfl rfl
theorem k_5_224 : (Jvm.Cond.laysFinal "StaveHouse$Study" "StaveHouse$Study" "tones" "[I") ∈ wAll := wA_5 (j := 224) rfl rfl
theorem k_5_226 : (Jvm.Cond.laysFinal "StaveHouse$Study" "StaveHouse$Study" "oldSteps" "[I") ∈ wAll := wA_5 (j := 226) rfl rfl
theorem k_5_228 : (Jvm.Cond.laysFinal "StaveHouse$Study" "StaveHouse$Study" "oldTones" "[I") ∈ wAll := wA_5 (j := 228) rfl rfl
theorem k_5_230 : (Jvm.Cond.laysFinal "StaveHouse$Study" "StaveHouse$Study" "begins" "[Z") ∈ wAll := wA_5 (j := 230) rfl rfl
theorem k_5_232 : (Jvm.Cond.laysFinal "StaveHouse$Study" "StaveHouse$Study" "letters" "[I") ∈ wAll := wA_5 (j := 232) rfl rfl
theorem W_prog_2_method_2_code_0 : chW prog_2_method_2_code 0 [42, 3, 181, 0, 21, 42, 3, 181, 0, 25, 177] := chW_of (by decide +kernel)
theorem W_prog_8_method_7_code_0 : chW prog_8_method_7_code 0 [4, 60, 27, 42, 180, 0, 17, 162, 0, 47, 42, 180, 0, 11, 27, 50, 180, 0, 80, 42, 180, 0, 11, 3, 50, 180, 0, 80, 148, 153, 0, 19, 16, 6, 16, 16] := chW_of (by decide +kernel)
theorem W_prog_8_method_7_code_32 : chW prog_8_method_7_code 32 [16, 6, 16, 16, 42, 180, 0, 11, 27, 50, 180, 0, 83, 104, 96, 172, 132, 1, 1, 167, 255, 207, 42, 182, 0, 86, 10, 184, 0, 90, 64, 42, 42, 180, 0, 11] := chW_of (by decide +kernel)
theorem W_prog_8_method_7_code_64 : chW prog_8_method_7_code 64 [42, 180, 0, 11, 3, 50, 180, 0, 80, 31, 97, 10, 101, 31, 109, 136, 181, 0, 36, 3, 172] := chW_of (by decide +kernel)
theorem d_8_7_48 : decode prog_8_method_7_code 48 = .ok (.iinc 1 1, 3) := D_132 W_prog_8_method_7_code_32 16 rfl rfl rfl
theorem W_prog_1_method_6_code_0 : chW prog_1_method_6_code 0 [27, 155, 0, 8, 27, 5, 161, 0, 7, 1, 167, 0, 9, 42, 180, 0, 27, 27, 50, 176] := chW_of (by decide +kernel)
theorem W_prog_11_method_4_code_0 : chW prog_11_method_4_code 0 [20, 0, 96, 66, 3, 54, 5, 21, 5, 43, 180, 0, 58, 162, 0, 75, 43, 180, 0, 77, 21, 5, 50, 58, 6, 42, 180, 0, 20, 21, 5, 50, 28, 46, 4, 96] := chW_of (by decide +kernel)
theorem W_prog_11_method_4_code_64 : chW prog_11_method_4_code 64 [90, 33, 148, 156, 0, 15, 25, 6, 180, 0, 86, 21, 7, 50, 180, 0, 90, 66, 132, 5, 1, 167, 255, 178, 33, 173] := chW_of (by decide +kernel)
theorem W_prog_11_method_4_code_32 : chW prog_11_method_4_code 32 [28, 46, 4, 96, 54, 7, 21, 7, 25, 6, 180, 0, 81, 162, 0, 37, 33, 9, 148, 155, 0, 19, 25, 6, 180, 0, 86, 21, 7, 50, 180, 0, 90, 33, 148, 156] := chW_of (by decide +kernel)
theorem d_11_4_82 : decode prog_11_method_4_code 82 = .ok (.iinc 5 1, 3) := D_132 W_prog_11_method_4_code_64 18 rfl rfl rfl
theorem W_prog_11_method_5_code_0 : chW prog_11_method_5_code 0 [42, 180, 0, 20, 28, 50, 29, 46, 54, 4, 21, 4, 155, 0, 17, 21, 4, 43, 180, 0, 77, 28, 50, 180, 0, 81, 161, 0, 7, 1, 167, 0, 15, 43, 180, 0] := chW_of (by decide +kernel)
theorem W_prog_11_method_5_code_32 : chW prog_11_method_5_code 32 [15, 43, 180, 0, 77, 28, 50, 180, 0, 86, 21, 4, 50, 176] := chW_of (by decide +kernel)
theorem W_prog_11_method_10_code_0 : chW prog_11_method_10_code 0 [29, 27, 164, 0, 7, 4, 167, 0, 4, 3, 54, 4, 21, 4, 153, 0, 9, 28, 26, 100, 167, 0, 6, 26, 28, 100, 16, 7, 184, 0, 130, 54, 5, 27, 29, 100] := chW_of (by decide +kernel)
theorem W_prog_11_method_10_code_32 : chW prog_11_method_10_code 32 [5, 27, 29, 100, 184, 0, 127, 16, 12, 112, 54, 6, 21, 5, 154, 0, 10, 21, 6, 154, 0, 5, 4, 172, 21, 5, 7, 160, 0, 14, 21, 6, 16, 7, 160, 0] := chW_of (by decide +kernel)
theorem W_prog_11_method_10_code_64 : chW prog_11_method_10_code 64 [16, 7, 160, 0, 7, 5, 167, 0, 4, 3, 172] := chW_of (by decide +kernel)
theorem W_prog_11_method_8_code_0 : chW prog_11_method_8_code 0 [42, 180, 0, 47, 17, 1, 44, 161, 0, 4, 177, 42, 180, 0, 17, 3, 50, 42, 180, 0, 47, 27, 79, 42, 180, 0, 17, 4, 50, 42, 180, 0, 47, 28, 79, 42] := chW_of (by decide +kernel)
theorem W_prog_11_method_8_code_32 : chW prog_11_method_8_code 32 [47, 28, 79, 42, 180, 0, 17, 5, 50, 42, 180, 0, 47, 29, 79, 42, 180, 0, 17, 6, 50, 42, 180, 0, 47, 21, 4, 79, 42, 89, 180, 0, 47, 4, 96, 181] := chW_of (by decide +kernel)
theorem W_prog_11_method_8_code_64 : chW prog_11_method_8_code 64 [47, 4, 96, 181, 0, 47, 177] := chW_of (by decide +kernel)
theorem W_prog_11_method_11_code_0 : chW prog_11_method_11_code 0 [42, 180, 0, 36, 28, 51, 153, 0, 23, 42, 180, 0, 27, 28, 46, 2, 159, 0, 13, 42, 180, 0, 33, 28, 46, 2, 160, 0, 5, 3, 172, 42, 180, 0, 23, 28] := chW_of (by decide +kernel)
theorem W_prog_11_method_11_code_32 : chW prog_11_method_11_code 32 [180, 0, 23, 28, 46, 42, 180, 0, 30, 28, 46, 100, 184, 0, 127, 62, 27, 8, 160, 0, 15, 29, 16, 7, 164, 0, 7, 4, 167, 0, 4, 3, 172, 42, 180, 0] := chW_of (by decide +kernel)
theorem W_prog_11_method_11_code_64 : chW prog_11_method_11_code 64 [172, 42, 180, 0, 23, 28, 46, 42, 180, 0, 30, 28, 46, 164, 0, 19, 42, 180, 0, 27, 28, 46, 42, 180, 0, 33, 28, 46, 100, 167, 0, 16, 42, 180, 0, 33] := chW_of (by decide +kernel)
theorem W_prog_11_method_11_code_96 : chW prog_11_method_11_code 96 [42, 180, 0, 33, 28, 46, 42, 180, 0, 27, 28, 46, 100, 54, 4, 29, 154, 0, 11, 21, 4, 184, 0, 127, 167, 0, 5, 21, 4, 54, 5, 21, 5, 16, 12, 184] := chW_of (by decide +kernel)
theorem W_prog_11_method_11_code_128 : chW prog_11_method_11_code 128 [5, 16, 12, 184, 0, 130, 54, 6, 21, 6, 178, 0, 133, 29, 16, 7, 112, 46, 161, 0, 16, 21, 6, 178, 0, 136, 29, 16, 7, 112, 46, 164, 0, 7, 4, 167] := chW_of (by decide +kernel)
theorem W_prog_11_method_11_code_160 : chW prog_11_method_11_code 160 [0, 7, 4, 167, 0, 4, 3, 172] := chW_of (by decide +kernel)
theorem W_prog_7_method_4_code_0 : chW prog_7_method_4_code 0 [20, 0, 92, 30, 105, 20, 0, 94, 109, 136, 172] := chW_of (by decide +kernel)
theorem W_prog_7_method_5_code_0 : chW prog_7_method_5_code 0 [16, 20, 16, 13, 42, 180, 0, 96, 104, 96, 42, 16, 16, 182, 0, 77, 153, 0, 8, 16, 15, 167, 0, 4, 3, 96, 16, 127, 184, 0, 99, 172] := chW_of (by decide +kernel)
theorem W_prog_7_method_8_code_0 : chW prog_7_method_8_code 0 [42, 180, 0, 73, 27, 50, 180, 0, 135, 28, 46, 62, 42, 180, 0, 73, 27, 50, 180, 0, 138, 28, 46, 54, 4, 27, 54, 5, 21, 5, 4, 96, 42, 180, 0, 56] := chW_of (by decide +kernel)
theorem W_prog_7_method_8_code_32 : chW prog_7_method_8_code 32 [42, 180, 0, 56, 162, 0, 41, 42, 180, 0, 73, 21, 5, 50, 4, 182, 0, 77, 153, 0, 27, 42, 180, 0, 73, 21, 5, 4, 96, 50, 29, 21, 4, 182, 0, 141] := chW_of (by decide +kernel)
theorem W_prog_7_method_8_code_64 : chW prog_7_method_8_code 64 [4, 182, 0, 141, 153, 0, 9, 132, 5, 1, 167, 255, 210, 21, 5, 172] := chW_of (by decide +kernel)
theorem d_7_8_71 : decode prog_7_method_8_code 71 = .ok (.iinc 5 1, 3) := D_132 W_prog_7_method_8_code_64 7 rfl rfl rfl
theorem W_prog_7_method_9_code_0 : chW prog_7_method_9_code 0 [42, 16, 8, 182, 0, 77, 153, 0, 11, 4, 27, 5, 108, 184, 0, 144, 172, 42, 16, 32, 182, 0, 77, 154, 0, 10, 42, 180, 0, 147, 153, 0, 7, 27, 167, 0] := chW_of (by decide +kernel)
theorem W_prog_7_method_9_code_32 : chW prog_7_method_9_code 32 [7, 27, 167, 0, 9, 27, 27, 16, 8, 108, 100, 172] := chW_of (by decide +kernel)
theorem W_prog_7_method_16_code_0 : chW prog_7_method_16_code 0 [42, 180, 0, 40, 154, 0, 10, 42, 180, 0, 36, 154, 0, 5, 2, 172, 3, 60, 27, 16, 12, 162, 0, 16, 42, 180, 0, 33, 27, 9, 80, 132, 1, 1, 167, 255] := chW_of (by decide +kernel)
theorem W_prog_7_method_16_code_32 : chW prog_7_method_16_code 32 [1, 1, 167, 255, 240, 3, 60, 27, 42, 180, 0, 36, 162, 0, 46, 42, 180, 0, 33, 42, 180, 0, 23, 5, 50, 27, 46, 16, 12, 112, 92, 47, 42, 180, 0, 23] := chW_of (by decide +kernel)
theorem d_7_16_31 : decode prog_7_method_16_code 31 = .ok (.iinc 1 1, 3) := D_132 W_prog_7_method_16_code_0 31 rfl rfl rfl
theorem W_prog_7_method_16_code_64 : chW prog_7_method_16_code 64 [42, 180, 0, 23, 8, 50, 27, 46, 42, 180, 0, 23, 7, 50, 27, 46, 100, 133, 97, 80, 132, 1, 1, 167, 255, 208, 3, 60, 20, 0, 190, 65, 3, 54, 4, 21] := chW_of (by decide +kernel)
theorem W_prog_7_method_16_code_96 : chW prog_7_method_16_code 96 [3, 54, 4, 21, 4, 16, 24, 162, 0, 89, 9, 55, 5, 3, 54, 7, 21, 7, 16, 12, 162, 0, 57, 21, 7, 21, 4, 100, 16, 12, 184, 0, 192, 54, 8, 22] := chW_of (by decide +kernel)
theorem d_7_16_84 : decode prog_7_method_16_code 84 = .ok (.iinc 1 1, 3) := D_132 W_prog_7_method_16_code_64 20 rfl rfl rfl
theorem W_prog_7_method_16_code_192 : chW prog_7_method_16_code 192 [27, 172] := chW_of (by decide +kernel)
theorem W_prog_7_method_16_code_160 : chW prog_7_method_16_code 160 [8, 46, 133, 105, 97, 55, 5, 132, 7, 1, 167, 255, 198, 22, 5, 32, 148, 158, 0, 9, 22, 5, 65, 21, 4, 60, 132, 4, 1, 167, 255, 166, 27, 172] := chW_of (by decide +kernel)
theorem W_prog_7_method_16_code_128 : chW prog_7_method_16_code 128 [192, 54, 8, 22, 5, 42, 180, 0, 33, 21, 7, 47, 21, 4, 16, 12, 162, 0, 12, 178, 0, 195, 21, 8, 46, 167, 0, 9, 178, 0, 198, 21, 8, 46, 133, 105] := chW_of (by decide +kernel)
theorem d_7_16_167 : decode prog_7_method_16_code 167 = .ok (.iinc 7 1, 3) := D_132 W_prog_7_method_16_code_160 7 rfl rfl rfl
theorem d_7_16_186 : decode prog_7_method_16_code 186 = .ok (.iinc 4 1, 3) := D_132 W_prog_7_method_16_code_160 26 rfl rfl rfl
theorem W_prog_1_method_7_code_0 : chW prog_1_method_7_code 0 [42, 27, 182, 0, 97, 78, 45, 198, 0, 15, 28, 155, 0, 11, 28, 45, 180, 0, 75, 161, 0, 7, 1, 167, 0, 9, 45, 180, 0, 78, 28, 50, 176] := chW_of (by decide +kernel)
theorem W_prog_1_method_7_code_32 : chW prog_1_method_7_code 32 [176] := chW_of (by decide +kernel)
theorem W_prog_1_method_12_code_0 : chW prog_1_method_12_code 0 [42, 27, 28, 182, 0, 101, 78, 45, 199, 0, 7, 9, 167, 0, 7, 45, 180, 0, 183, 173] := chW_of (by decide +kernel)
theorem W_prog_1_method_8_code_0 : chW prog_1_method_8_code 0 [42, 27, 28, 182, 0, 101, 58, 4, 25, 4, 198, 0, 16, 29, 155, 0, 12, 29, 25, 4, 180, 0, 105, 161, 0, 7, 1, 167, 0, 10, 25, 4, 180, 0, 108, 29] := chW_of (by decide +kernel)
theorem W_prog_1_method_8_code_32 : chW prog_1_method_8_code 32 [180, 0, 108, 29, 50, 176] := chW_of (by decide +kernel)
theorem W_prog_1_method_34_code_0 : chW prog_1_method_34_code 0 [30, 55, 4, 32, 55, 6, 3, 54, 8, 21, 8, 17, 0, 200, 162, 0, 31, 22, 6, 9, 148, 153, 0, 24, 22, 4, 22, 6, 113, 55, 9, 22, 6, 55, 4, 22] := chW_of (by decide +kernel)
theorem W_prog_1_method_34_code_32 : chW prog_1_method_34_code 32 [6, 55, 4, 22, 9, 55, 6, 132, 8, 1, 167, 255, 223, 22, 4, 173] := chW_of (by decide +kernel)
theorem d_1_34_39 : decode prog_1_method_34_code 39 = .ok (.iinc 8 1, 3) := D_132 W_prog_1_method_34_code_32 7 rfl rfl rfl
theorem W_prog_1_method_36_code_0 : chW prog_1_method_36_code 0 [30, 20, 1, 79, 184, 1, 81, 65, 32, 9, 148, 154, 0, 9, 20, 1, 79, 167, 0, 8, 20, 1, 79, 32, 109, 173] := chW_of (by decide +kernel)
theorem W_prog_4_method_6_code_0 : chW prog_4_method_6_code 0 [27, 42, 180, 0, 120, 162, 0, 19, 42, 180, 0, 111, 4, 50, 27, 46, 28, 160, 0, 7, 4, 167, 0, 4, 3, 172] := chW_of (by decide +kernel)
theorem W_prog_4_method_7_code_0 : chW prog_4_method_7_code 0 [27, 54, 4, 21, 4, 42, 180, 0, 76, 162, 0, 95, 21, 4, 4, 96, 42, 180, 0, 76, 162, 0, 15, 42, 180, 0, 11, 21, 4, 4, 96, 47, 167, 0, 4, 32] := chW_of (by decide +kernel)
theorem W_prog_4_method_7_code_96 : chW prog_4_method_7_code 96 [255, 218, 132, 4, 1, 167, 255, 158, 177] := chW_of (by decide +kernel)
theorem W_prog_4_method_7_code_32 : chW prog_4_method_7_code 32 [167, 0, 4, 32, 55, 5, 22, 5, 42, 180, 0, 11, 21, 4, 47, 101, 20, 0, 123, 109, 55, 7, 3, 54, 9, 21, 9, 16, 40, 162, 0, 37, 22, 7, 20, 0] := chW_of (by decide +kernel)
theorem W_prog_4_method_7_code_64 : chW prog_4_method_7_code 64 [22, 7, 20, 0, 125, 148, 155, 0, 28, 42, 180, 0, 15, 21, 4, 92, 46, 7, 96, 79, 22, 7, 20, 0, 125, 109, 55, 7, 132, 9, 1, 167, 255, 218, 132, 4] := chW_of (by decide +kernel)
theorem d_4_7_92 : decode prog_4_method_7_code 92 = .ok (.iinc 9 1, 3) := D_132 W_prog_4_method_7_code_64 28 rfl rfl rfl
theorem d_4_7_98 : decode prog_4_method_7_code 98 = .ok (.iinc 4 1, 3) := D_132 W_prog_4_method_7_code_96 2 rfl rfl rfl
theorem W_prog_4_method_8_code_0 : chW prog_4_method_8_code 0 [16, 24, 8, 42, 180, 0, 127, 184, 0, 130, 104, 96, 27, 154, 0, 8, 16, 12, 167, 0, 4, 3, 96, 172] := chW_of (by decide +kernel)
theorem W_prog_4_method_11_code_0 : chW prog_4_method_11_code 0 [32, 30, 148, 158, 0, 15, 20, 0, 144, 32, 30, 101, 105, 32, 30, 101, 105, 173, 21, 4, 153, 0, 7, 9, 167, 0, 10, 30, 32, 101, 30, 32, 101, 105, 173] := chW_of (by decide +kernel)
theorem W_prog_4_method_11_code_32 : chW prog_4_method_11_code 32 [101, 105, 173] := chW_of (by decide +kernel)
theorem W_prog_4_method_9_code_0 : chW prog_4_method_9_code 0 [43, 28, 184, 0, 134, 54, 4, 28, 54, 5, 21, 5, 29, 162, 0, 21, 21, 4, 42, 180, 0, 25, 21, 5, 46, 96, 54, 4, 132, 5, 1, 167, 255, 235, 21, 4] := chW_of (by decide +kernel)
theorem W_prog_4_method_9_code_32 : chW prog_4_method_9_code 32 [255, 235, 21, 4, 172] := chW_of (by decide +kernel)
theorem d_4_9_28 : decode prog_4_method_9_code 28 = .ok (.iinc 5 1, 3) := D_132 W_prog_4_method_9_code_0 28 rfl rfl rfl
theorem W_prog_4_method_12_code_0 : chW prog_4_method_12_code 0 [43, 42, 180, 0, 28, 28, 46, 184, 0, 134, 54, 4, 42, 180, 0, 22, 42, 180, 0, 28, 28, 46, 46, 54, 5, 42, 180, 0, 22, 42, 180, 0, 28, 28, 4, 96] := chW_of (by decide +kernel)
theorem W_prog_4_method_12_code_32 : chW prog_4_method_12_code 32 [28, 28, 4, 96, 46, 46, 21, 5, 100, 4, 184, 0, 115, 54, 6, 28, 4, 96, 42, 180, 0, 66, 162, 0, 18, 29, 42, 180, 0, 31, 28, 46, 100, 3, 184, 0] := chW_of (by decide +kernel)
theorem W_prog_4_method_12_code_64 : chW prog_4_method_12_code 64 [100, 3, 184, 0, 115, 167, 0, 4, 3, 54, 7, 42, 180, 0, 28, 28, 46, 54, 8, 21, 8, 42, 180, 0, 28, 28, 4, 96, 46, 162, 0, 74, 132, 4, 6, 42] := chW_of (by decide +kernel)
theorem W_prog_4_method_12_code_160 : chW prog_4_method_12_code 160 [206, 132, 8, 1, 167, 255, 175, 177] := chW_of (by decide +kernel)
theorem W_prog_4_method_12_code_96 : chW prog_4_method_12_code 96 [132, 4, 6, 42, 180, 0, 22, 21, 8, 46, 54, 9, 21, 9, 42, 180, 0, 22, 21, 8, 4, 96, 46, 162, 0, 42, 42, 180, 0, 19, 21, 9, 21, 4, 21, 7] := chW_of (by decide +kernel)
theorem d_4_12_96 : decode prog_4_method_12_code 96 = .ok (.iinc 4 6, 3) := D_132 W_prog_4_method_12_code_96 0 rfl rfl rfl
theorem d_4_12_161 : decode prog_4_method_12_code 161 = .ok (.iinc 8 1, 3) := D_132 W_prog_4_method_12_code_160 1 rfl rfl rfl
theorem W_prog_4_method_12_code_128 : chW prog_4_method_12_code 128 [21, 4, 21, 7, 21, 9, 21, 5, 100, 104, 21, 6, 108, 96, 79, 21, 4, 42, 180, 0, 15, 21, 9, 46, 96, 54, 4, 132, 9, 1, 167, 255, 206, 132, 8, 1] := chW_of (by decide +kernel)
theorem d_4_12_155 : decode prog_4_method_12_code 155 = .ok (.iinc 9 1, 3) := D_132 W_prog_4_method_12_code_128 27 rfl rfl rfl
theorem W_prog_4_method_13_code_0 : chW prog_4_method_13_code 0 [27, 155, 0, 11, 27, 42, 180, 0, 66, 161, 0, 7, 20, 0, 118, 173, 28, 170, 0, 0, 0, 0, 0, 102, 0, 0, 0, 0, 0, 0, 0, 4, 0, 0, 0, 35] := chW_of (by decide +kernel)
theorem d_4_13_17 : decode prog_4_method_13_code 17 = .ok (.tableswitch 102 0 4 #[35, 43, 60, 68, 95], 35) := by decide +kernel
theorem W_prog_4_method_13_code_32 : chW prog_4_method_13_code 32 [0, 0, 0, 35, 0, 0, 0, 43, 0, 0, 0, 60, 0, 0, 0, 68, 0, 0, 0, 95, 42, 180, 0, 28, 27, 46, 133, 173, 42, 180, 0, 28, 27, 4, 96, 46] := chW_of (by decide +kernel)
theorem W_prog_4_method_13_code_64 : chW prog_4_method_13_code 64 [27, 4, 96, 46, 42, 180, 0, 28, 27, 46, 100, 133, 173, 42, 180, 0, 31, 27, 46, 133, 173, 42, 180, 0, 22, 42, 180, 0, 28, 27, 4, 96, 46, 46, 42, 180] := chW_of (by decide +kernel)
theorem W_prog_4_method_13_code_96 : chW prog_4_method_13_code 96 [46, 46, 42, 180, 0, 22, 42, 180, 0, 28, 27, 46, 46, 100, 133, 173, 42, 180, 0, 34, 27, 47, 173, 20, 0, 118, 173] := chW_of (by decide +kernel)
set_option maxRecDepth 20000 in
theorem inW_5 : ∀ w ∈ u_ws RX5 TX5 14, w ∈ wAll := by
  show ∀ w ∈ [(Jvm.Cond.lays "StaveHouse$Performance" "StaveHouse$Performance" "count" "I"), (Jvm.Cond.lays "StaveHouse$Performance" "StaveHouse$Performance" "tooMany" "Z"), (Jvm.Cond.lays "StaveHouse$Performance" "StaveHouse$Performance" "made" "I"), (Jvm.Cond.lays "StaveHouse$Performance" "StaveHouse$Performance" "latest" "I"), (Jvm.Cond.laysFinal "StaveHouse$Performance" "StaveHouse$Performance" "heardRow" "[I"), (Jvm.Cond.laysFinal "StaveHouse$Performance" "StaveHouse$Performance" "codeRow" "[I"), (Jvm.Cond.laysFinal "StaveHouse$Performance" "StaveHouse$Performance" "mix" "[I"), (Jvm.Cond.laysFinal "StaveHouse$Performance" "StaveHouse$Performance" "sounds" "[[I"), (Jvm.Cond.lays "StaveHouse$Performance" "StaveHouse$Performance" "strokes" "[J"), (Jvm.Cond.lays "StaveHouse$Performance" "StaveHouse$Performance" "otherStrokes" "[J"), (Jvm.Cond.laysFinal "StaveHouse$Performance" "StaveHouse$Performance" "keyTicks" "[J"), (Jvm.Cond.lays "StaveHouse$Performance" "StaveHouse$Performance" "heard" "I"), (Jvm.Cond.lays "StaveHouse$Performance" "StaveHouse$Performance" "predicted" "I"), (Jvm.Cond.lays "StaveHouse$Performance" "StaveHouse$Performance" "index" "I")], w ∈ wAll
  exact List.forall_mem_cons.mpr ⟨k_6_83, List.forall_mem_cons.mpr ⟨k_6_85, List.forall_mem_cons.mpr ⟨k_6_87, List.forall_mem_cons.mpr ⟨k_6_89, List.forall_mem_cons.mpr ⟨k_6_91, List.forall_mem_cons.mpr ⟨k_6_93, List.forall_mem_cons.mpr ⟨k_6_95, List.forall_mem_cons.mpr ⟨k_6_97, List.forall_mem_cons.mpr ⟨k_6_99, List.forall_mem_cons.mpr ⟨k_6_101, List.forall_mem_cons.mpr ⟨k_6_103, List.forall_mem_cons.mpr ⟨k_6_105, List.forall_mem_cons.mpr ⟨k_6_107, List.forall_mem_cons.mpr ⟨k_6_109, fun _ h => absurd h List.not_mem_nil⟩⟩⟩⟩⟩⟩⟩⟩⟩⟩⟩⟩⟩⟩
set_option maxRecDepth 20000 in
theorem inW_9 : ∀ w ∈ u_ws RX9 TX9 11, w ∈ wAll := by
  show ∀ w ∈ [(Jvm.Cond.lays "StaveHouse$Study" "StaveHouse$Study" "moments" "I"), (Jvm.Cond.laysFinal "StaveHouse$Study" "StaveHouse$Study" "places" "[J"), (Jvm.Cond.lays "StaveHouse$Study" "StaveHouse$Study" "faults" "I"), (Jvm.Cond.laysFinal "StaveHouse$Study" "StaveHouse$Study" "faultRows" "[[I"), (Jvm.Cond.laysFinal "StaveHouse$Study" "StaveHouse$Study" "eventsAt" "[[I"), (Jvm.Cond.laysFinal "StaveHouse$Study" "StaveHouse$Study" "steps" "[I"), (Jvm.Cond.laysFinal "StaveHouse$Study" "StaveHouse$Study" "tones" "[I"), (Jvm.Cond.laysFinal "StaveHouse$Study" "StaveHouse$Study" "oldSteps" "[I"), (Jvm.Cond.laysFinal "StaveHouse$Study" "StaveHouse$Study" "oldTones" "[I"), (Jvm.Cond.laysFinal "StaveHouse$Study" "StaveHouse$Study" "begins" "[Z"), (Jvm.Cond.laysFinal "StaveHouse$Study" "StaveHouse$Study" "letters" "[I")], w ∈ wAll
  exact List.forall_mem_cons.mpr ⟨k_5_212, List.forall_mem_cons.mpr ⟨k_5_214, List.forall_mem_cons.mpr ⟨k_5_216, List.forall_mem_cons.mpr ⟨k_5_218, List.forall_mem_cons.mpr ⟨k_5_220, List.forall_mem_cons.mpr ⟨k_5_222, List.forall_mem_cons.mpr ⟨k_5_224, List.forall_mem_cons.mpr ⟨k_5_226, List.forall_mem_cons.mpr ⟨k_5_228, List.forall_mem_cons.mpr ⟨k_5_230, List.forall_mem_cons.mpr ⟨k_5_232, fun _ h => absurd h List.not_mem_nil⟩⟩⟩⟩⟩⟩⟩⟩⟩⟩⟩
abbrev Q_ByteRow_clear (K : zK) (D : va_G) (ca : Nat → ClassId) (ad : Nat → Int → Nat → Nat) (L : List Nat) (r : Int) (F : zF) (B : zB) (A : Nat → Prop) : Array Value → State → Outcome → State → Prop := va_Qv (S := Unit) (fun _ => True) (fun _ => zPo D ca ad lnC K.2 L F B A) A
def f_ByteRow_clear (K : zK) (l0 : Int) (F : zF) (B : zB) : zO := if 0 ≤ l0 ∧ l0 < K.2 0 then some (0, (zup3 (zup3 F 0 l0 1 0) 0 l0 2 0), B) else none
set_option maxHeartbeats 4000000 in
set_option maxRecDepth 100000 in
theorem c_ByteRow_clear {l : Launch} {D : va_G} {ca : Nat → ClassId} {ad : Nat → Int → Nat → Nat} {L : List Nat} {aS vS : Nat → Nat} {sz : Nat} {K : zK}  {l0 : Int} {F F9 : zF} {B B9 : zB} {r : Int} (hf : f_ByteRow_clear K l0 F B = some (r, F9, B9)) : Met l ({ cls := "StaveHouse$ByteRow", name := "clear", desc := "()V" } : Jvm.MethodName) (Cond.code ({ cls := "StaveHouse$ByteRow", name := "clear", desc := "()V" } : Jvm.MethodName) prog_2_method_2_code 1 (Option.none : Option Jvm.ClassFile.FieldType) :: wAll) ({ frames := 0, cells := 0, slots := 0, locals := 0 } : Room) (va_Pc [.ref (ad 0 l0 0)] (zPre D ca ad lnC K.2 L aS vS F B sz)) (Q_ByteRow_clear K D ca ad L r F9 B9 (zA L sz)) 0 0 (zA L sz) := by
  refine zMet (Qc := Q_ByteRow_clear K D ca ad L r F9 B9) (lv := [(0, .ref (ad 0 l0 0))]) (by decide) (Nat.le_of_ble_eq_true rfl) rfl (fun A p e s m below meth c ls X hZ hS hl => ?_)
  obtain ⟨hx, hb, hr, hml, hown, hts, hlk, hK, hA, hL, hX⟩ := id X
  replace hf : (if 0 ≤ l0 ∧ l0 < K.2 0 then some (0, (zup3 (zup3 F 0 l0 1 0) 0 l0 2 0), B) else none) = some (r, F9, B9) := hf
  refine lv_aload_n hx hb (D_42 W_prog_2_method_2_code_0 0 rfl rfl) rfl (lv_at hl 0 rfl) ?_
  refine lv_iconst (v := iI 0) hx hb (D_3 W_prog_2_method_2_code_0 1 rfl rfl) rfl ?_
  obtain ⟨g1, hf⟩ := gif hf
  refine zput (ci := 0) (C := RX0) (T := TX0) (k := 1) (v := 0) (w := .int (iI 0)) hx hb hts inW_0 tyX0 tyX0_ok nmX0 hown hK hZ hS g1.1 g1.2 rfl (by decide) k_1_42 rfl (fun G h => congrArg (fun q => Value.int (iI q)) h) rfl rfl (zno (by decide)) (D_181 W_prog_2_method_2_code_0 2 rfl rfl rfl) (fun H2 locs2 hZ2 hS2 => ?_)
  refine lv_aload_n hx hb (D_42 W_prog_2_method_2_code_0 5 rfl rfl) rfl (lv_at hl 0 rfl) ?_
  refine lv_iconst (v := iI 0) hx hb (D_3 W_prog_2_method_2_code_0 6 rfl rfl) rfl ?_
  refine zput (ci := 0) (C := RX0) (T := TX0) (k := 2) (v := 0) (w := .int (iI 0)) hx hb hts inW_0 tyX0 tyX0_ok nmX0 hown hK hZ2 hS2 g1.1 g1.2 rfl (by decide) k_1_48 rfl (fun G h => congrArg (fun q => Value.int (iI q)) h) rfl rfl (zno (by decide)) (D_181 W_prog_2_method_2_code_0 7 rfl rfl rfl) (fun H3 locs3 hZ3 hS3 => ?_)
  cases hf
  exact W.vret hx hb hr (fun t ht hW => ⟨⟨(), rfl, trivial, by rw [ht]; exact hZ3, va_K.moved hW.alike hK⟩, hS3.F ht⟩) hS3.2.2 (D_177 W_prog_2_method_2_code_0 10 rfl rfl) hlk

abbrev Q_Piece_judgeEnds (K : zK) (D : va_G) (ca : Nat → ClassId) (ad : Nat → Int → Nat → Nat) (L : List Nat) (r : Int) (F : zF) (B : zB) (A : Nat → Prop) : Array Value → State → Outcome → State → Prop := va_Qi (S := Unit) (fun p _ => p = iI r) (fun _ => zPo D ca ad lnC K.2 L F B A) A
def f_Piece_judgeEnds_2 (K : zK) : Nat → Int → Int → zF → zB → zO
  | 0, _, _, _, _ => none
  | n + 1, l1, l0, F, B => if 0 ≤ l0 ∧ l0 < K.2 6 then if r32 l1 then if r32 (F 6 l0 1) then (if (F 6 l0 1) ≤ l1 then zbind (f_Piece_barLength K l0 F B) (fun r5 F5 B5 => if r64 r5 then if 0 ≤ (B5 6 l0 0 0) ∧ (B5 6 l0 0 0) < K.2 4 then if ¬ lI (zmax r5 1) = 0 then some (0, (zup3 F5 6 l0 7 (zldv (((F5 4 (B5 6 l0 0 0) 7) + (zmax r5 1)) - 1) (zmax r5 1))), B5) else none else none else none) else if 0 ≤ l1 ∧ l1 < 4 then if 0 ≤ (B 6 l0 0 l1) ∧ (B 6 l0 0 l1) < K.2 4 then if 0 ≤ (B 6 l0 0 0) ∧ (B 6 l0 0 0) < K.2 4 then if r64 (F 4 (B 6 l0 0 l1) 7) then if r64 (F 4 (B 6 l0 0 0) 7) then (if (zcmp (F 4 (B 6 l0 0 l1) 7) (F 4 (B 6 l0 0 0) 7)) = 0 then f_Piece_judgeEnds_2 K n (l1 + 1) l0 F B else some (6 + (16 * (F 4 (B 6 l0 0 l1) 3)), F, B)) else none else none else none else none else none) else none else none else none
set_option maxHeartbeats 4000000 in
set_option maxRecDepth 100000 in
theorem b_Piece_judgeEnds_2 {D : va_G} {ca : Nat → ClassId} {ad : Nat → Int → Nat → Nat} {L : List Nat} {aS vS : Nat → Nat} {A : Nat → Prop} {p : Program} {l : Launch} {e : Env} {s : State} {m : MethodId} {args : Array Value} {below : List Frame} {meth : Method} {c : Code} {K : zK} {r : Int} {F9 : zF} {B9 : zB} (X : zX D ca L aS vS A p s m args meth c prog_8_method_7_code 3 (Option.some Jvm.ClassFile.FieldType.int) "StaveHouse$Piece") : ∀ {n : Nat} {l1 : Int} {l0 : Int} {F : zF} {B : zB} {H : Heap} {locs : List Loc} {ls : Array Slot}, f_Piece_judgeEnds_2 K n l1 l0 F B = some (r, F9, B9) → zH D ca ad lnC K.2 L F B A H → va_S A s.heap H locs → lv_has ls 3 [(1, .int (iI l1)), (0, .ref (ad 6 l0 0))] → W p l e ({ frames := 2, cells := 0, slots := 0, locals := 35 } : Room) s m args below meth c H locs 0 0 (MQ below (Q_Piece_judgeEnds K D ca ad L r F9 B9 A) args s 0 0 A) (F0 m 2 ls []) := by
  obtain ⟨hx, hb, hr, hml, hown, hts, hlk, hK, hA, hL, hX⟩ := id X
  intro n
  induction n with
  | zero =>
    intros
    rename_i hf _ _ _
    cases hf
  | succ n ih =>
    intro l1 l0 F B H locs ls hf hZ hS hl
    replace hf : (if 0 ≤ l0 ∧ l0 < K.2 6 then if r32 l1 then if r32 (F 6 l0 1) then (if (F 6 l0 1) ≤ l1 then zbind (f_Piece_barLength K l0 F B) (fun r5 F5 B5 => if r64 r5 then if 0 ≤ (B5 6 l0 0 0) ∧ (B5 6 l0 0 0) < K.2 4 then if ¬ lI (zmax r5 1) = 0 then some (0, (zup3 F5 6 l0 7 (zldv (((F5 4 (B5 6 l0 0 0) 7) + (zmax r5 1)) - 1) (zmax r5 1))), B5) else none else none else none) else if 0 ≤ l1 ∧ l1 < 4 then if 0 ≤ (B 6 l0 0 l1) ∧ (B 6 l0 0 l1) < K.2 4 then if 0 ≤ (B 6 l0 0 0) ∧ (B 6 l0 0 0) < K.2 4 then if r64 (F 4 (B 6 l0 0 l1) 7) then if r64 (F 4 (B 6 l0 0 0) 7) then (if (zcmp (F 4 (B 6 l0 0 l1) 7) (F 4 (B 6 l0 0 0) 7)) = 0 then f_Piece_judgeEnds_2 K n (l1 + 1) l0 F B else some (6 + (16 * (F 4 (B 6 l0 0 l1) 3)), F, B)) else none else none else none else none else none) else none else none else none) = some (r, F9, B9) := hf
    refine lv_iload_n hx hb (D_27 W_prog_8_method_7_code_0 2 rfl rfl) rfl (lv_at hl 0 rfl) ?_
    refine lv_aload_n hx hb (D_42 W_prog_8_method_7_code_0 3 rfl rfl) rfl (lv_at hl 1 rfl) ?_
    obtain ⟨g1, hf⟩ := gif hf
    refine zget (ci := 6) (C := RX6) (T := TX6) (v := .int (iI (F 6 l0 1))) (k := 1) hx hb hts inW_6 hown hK hZ g1.1 g1.2 rfl (by decide) k_2_190 rfl (D_180 W_prog_8_method_7_code_0 4 rfl rfl rfl) ?_
    obtain ⟨g2, hf⟩ := gif hf
    obtain ⟨g3, hf⟩ := gif hf
    refine zge (tgt := 54) hx hb g2 g3 (D_162 W_prog_8_method_7_code_0 7 rfl rfl rfl) (by decide) (fun h4 => ?_) (fun h4 => ?_)
    · replace hf := gpos hf h4
      refine lv_aload_n hx hb (D_42 W_prog_8_method_7_code_32 22 rfl rfl) rfl (lv_at hl 1 rfl) ?_
      obtain ⟨r5, F5, B5, hc5, hf⟩ := gbind hf
      refine va_calll (va_runV (As := []) (rest := []) ⟨hx, hb, hml, hown, hts⟩ (c_Piece_barLength (l := l) hc5) (cwV 0 hts (gdV k_5_174 k_4_190 k_4_191 k_1_15 k_4_192) rfl rfl rfl (by decide +kernel) ⟨Nat.le_of_ble_eq_true rfl, Nat.le_of_ble_eq_true rfl⟩) (zPV X hZ hS (ci := 6) g1.1 g1.2 (r := (RX6, TX6, 14)) rfl []) rfl rfl hl.1 rfl (lv_room (Nat.le_of_ble_eq_true rfl)) (D_182 W_prog_8_method_7_code_32 23 rfl rfl rfl) ⟨Nat.le_of_ble_eq_true rfl, Nat.le_of_ble_eq_true rfl⟩) hS (fun q _ h => zAin X hS q h) (zAin X hS) (fun p5 u5 t5 H5 locs5 ht5 hv5 hw5 hB5 hz5 hk5 hS5 => ?_)
      have hZ5 := zBack X ht5 hB5
      subst hw5
      refine lv_lconst (v := lI 1) hx hb (D_10 W_prog_8_method_7_code_32 26 rfl rfl) (by decide) ?_
      obtain ⟨g6, hf⟩ := gif hf
      refine va_mmax_long hx hb (by rw [hml]; exact hl.1.symm) hown (hts _ k_5_175) (hts _ k_5_176) (hts _ k_1_3) (hts _ k_5_177) (Nat.le_of_ble_eq_true rfl) (Nat.le_of_ble_eq_true rfl) (Nat.le_of_ble_eq_true rfl) (Nat.le_of_ble_eq_true rfl) (D_184 W_prog_8_method_7_code_32 27 rfl rfl rfl) ?_
      rw [zlmax_e g6 (by decide)]
      refine lv_lstore_n (lv' := [(1, .long (lI (zmax r5 1))), (0, .ref (ad 6 l0 0))]) hx hb (D_64 W_prog_8_method_7_code_32 30 rfl rfl) rfl hl (by decide) rfl (fun ls hl => ?_)
      refine lv_aload_n hx hb (D_42 W_prog_8_method_7_code_32 31 rfl rfl) rfl (lv_at hl 1 rfl) ?_
      refine lv_aload_n hx hb (D_42 W_prog_8_method_7_code_64 0 rfl rfl) rfl (lv_at hl 1 rfl) ?_
      refine zget (ci := 6) (C := RX6) (T := TX6) (v := .ref (ad 6 l0 (0 + 1))) (k := 0) hx hb hts inW_6 hown hK hZ5 g1.1 g1.2 rfl (by decide) k_2_185 rfl (D_180 W_prog_8_method_7_code_64 1 rfl rfl rfl) ?_
      refine lv_iconst (v := iI 0) hx hb (D_3 W_prog_8_method_7_code_64 4 rfl rfl) rfl ?_
      refine zaldR (t := 4) (x := 6) (ci := 6) (k := 0) hx hb hK rfl rfl hZ5 g1.1 g1.2 rfl (Nat.le_of_ble_eq_true rfl) (by decide) (show (0 : Int) < 4 by decide) (D_50 W_prog_8_method_7_code_64 5 rfl rfl) ?_
      obtain ⟨g7, hf⟩ := gif hf
      refine zunrf g7.1 ?_
      refine zget (ci := 4) (C := RX4) (T := TX4) (v := .long (lI (F5 4 (B5 6 l0 0 0) 7))) (k := 7) hx hb hts inW_4 hown hK hZ5 g7.1 g7.2 rfl (by decide) k_4_141 rfl (D_180 W_prog_8_method_7_code_64 6 rfl rfl rfl) ?_
      refine lv_lload_n hx hb (D_31 W_prog_8_method_7_code_64 9 rfl rfl) rfl (lv_at hl 0 rfl) ?_
      refine zladd hx hb (D_97 W_prog_8_method_7_code_64 10 rfl rfl) ?_
      refine lv_lconst (v := lI 1) hx hb (D_10 W_prog_8_method_7_code_64 11 rfl rfl) (by decide) ?_
      refine zlsub hx hb (D_101 W_prog_8_method_7_code_64 12 rfl rfl) ?_
      refine lv_lload_n hx hb (D_31 W_prog_8_method_7_code_64 13 rfl rfl) rfl (lv_at hl 0 rfl) ?_
      obtain ⟨g8, hf⟩ := gif hf
      refine zldv_r hx hb g8 (D_109 W_prog_8_method_7_code_64 14 rfl rfl) ?_
      refine zl2iw hx hb (D_136 W_prog_8_method_7_code_64 15 rfl rfl) ?_
      refine zput (ci := 6) (C := RX6) (T := TX6) (k := 7) (v := (zldv (((F5 4 (B5 6 l0 0 0) 7) + (zmax r5 1)) - 1) (zmax r5 1))) (w := .int (iI (zldv (((F5 4 (B5 6 l0 0 0) 7) + (zmax r5 1)) - 1) (zmax r5 1)))) hx hb hts inW_6 tyX6 tyX6_ok nmX6 hown hK hZ5 hS5 g1.1 g1.2 rfl (by decide) k_2_222 rfl (fun G h => congrArg (fun q => Value.int (iI q)) h) rfl rfl (zno (by decide)) (D_181 W_prog_8_method_7_code_64 16 rfl rfl rfl) (fun H9 locs9 hZ9 hS9 => ?_)
      refine lv_iconst (v := iI 0) hx hb (D_3 W_prog_8_method_7_code_64 19 rfl rfl) rfl ?_
      cases hf
      exact W.iret hx hb hr (fun t ht hW => ⟨⟨_, (), rfl, rfl, by rw [ht]; exact hZ9, va_K.moved hW.alike hK⟩, hS9.F ht⟩) hS9.2.2 (D_172 W_prog_8_method_7_code_64 20 rfl rfl) hlk
    · replace hf := gneg hf h4
      refine lv_aload_n hx hb (D_42 W_prog_8_method_7_code_0 10 rfl rfl) rfl (lv_at hl 1 rfl) ?_
      refine zget (ci := 6) (C := RX6) (T := TX6) (v := .ref (ad 6 l0 (0 + 1))) (k := 0) hx hb hts inW_6 hown hK hZ g1.1 g1.2 rfl (by decide) k_2_185 rfl (D_180 W_prog_8_method_7_code_0 11 rfl rfl rfl) ?_
      refine lv_iload_n hx hb (D_27 W_prog_8_method_7_code_0 14 rfl rfl) rfl (lv_at hl 0 rfl) ?_
      obtain ⟨g10, hf⟩ := gif hf
      refine zaldR (t := 4) (x := 6) (ci := 6) (k := 0) hx hb hK rfl rfl hZ g1.1 g1.2 rfl (Nat.le_of_ble_eq_true rfl) g10.1 g10.2 (D_50 W_prog_8_method_7_code_0 15 rfl rfl) ?_
      obtain ⟨g11, hf⟩ := gif hf
      refine zunrf g11.1 ?_
      refine zget (ci := 4) (C := RX4) (T := TX4) (v := .long (lI (F 4 (B 6 l0 0 l1) 7))) (k := 7) hx hb hts inW_4 hown hK hZ g11.1 g11.2 rfl (by decide) k_4_141 rfl (D_180 W_prog_8_method_7_code_0 16 rfl rfl rfl) ?_
      refine lv_aload_n hx hb (D_42 W_prog_8_method_7_code_0 19 rfl rfl) rfl (lv_at hl 1 rfl) ?_
      refine zget (ci := 6) (C := RX6) (T := TX6) (v := .ref (ad 6 l0 (0 + 1))) (k := 0) hx hb hts inW_6 hown hK hZ g1.1 g1.2 rfl (by decide) k_2_185 rfl (D_180 W_prog_8_method_7_code_0 20 rfl rfl rfl) ?_
      refine lv_iconst (v := iI 0) hx hb (D_3 W_prog_8_method_7_code_0 23 rfl rfl) rfl ?_
      refine zaldR (t := 4) (x := 6) (ci := 6) (k := 0) hx hb hK rfl rfl hZ g1.1 g1.2 rfl (Nat.le_of_ble_eq_true rfl) (by decide) (show (0 : Int) < 4 by decide) (D_50 W_prog_8_method_7_code_0 24 rfl rfl) ?_
      obtain ⟨g12, hf⟩ := gif hf
      refine zunrf g12.1 ?_
      refine zget (ci := 4) (C := RX4) (T := TX4) (v := .long (lI (F 4 (B 6 l0 0 0) 7))) (k := 7) hx hb hts inW_4 hown hK hZ g12.1 g12.2 rfl (by decide) k_4_141 rfl (D_180 W_prog_8_method_7_code_0 25 rfl rfl rfl) ?_
      obtain ⟨g13, hf⟩ := gif hf
      obtain ⟨g14, hf⟩ := gif hf
      refine zcmp_r hx hb g13 g14 (D_148 W_prog_8_method_7_code_0 28 rfl rfl) ?_
      refine z0eq (tgt := 48) hx hb zcmp_32 (D_153 W_prog_8_method_7_code_0 29 rfl rfl rfl) (by decide) (fun h15 => ?_) (fun h15 => ?_)
      · replace hf := gpos hf h15
        refine lv_iinc (v := iI (l1 + 1)) (lv' := [(1, .int (iI (l1 + 1))), (0, .ref (ad 6 l0 0))]) hx hb d_8_7_48 hl (k := 0) rfl (iI_add _ 1) (by decide) rfl (fun ls hl => ?_)
        refine lv_goto (tgt := 2) hx hb (D_167 W_prog_8_method_7_code_32 19 rfl rfl rfl) (by decide) ?_
        exact ih hf hZ hS (lv_sub hl [0, 1] rfl)
      · replace hf := gneg hf h15
        refine lv_bipush (v := iI 6) hx hb (D_16 W_prog_8_method_7_code_32 0 rfl rfl rfl) (by decide) ?_
        refine lv_bipush (v := iI 16) hx hb (D_16 W_prog_8_method_7_code_32 2 rfl rfl rfl) (by decide) ?_
        refine lv_aload_n hx hb (D_42 W_prog_8_method_7_code_32 4 rfl rfl) rfl (lv_at hl 1 rfl) ?_
        refine zget (ci := 6) (C := RX6) (T := TX6) (v := .ref (ad 6 l0 (0 + 1))) (k := 0) hx hb hts inW_6 hown hK hZ g1.1 g1.2 rfl (by decide) k_2_185 rfl (D_180 W_prog_8_method_7_code_32 5 rfl rfl rfl) ?_
        refine lv_iload_n hx hb (D_27 W_prog_8_method_7_code_32 8 rfl rfl) rfl (lv_at hl 0 rfl) ?_
        refine zaldR (t := 4) (x := 6) (ci := 6) (k := 0) hx hb hK rfl rfl hZ g1.1 g1.2 rfl (Nat.le_of_ble_eq_true rfl) g10.1 g10.2 (D_50 W_prog_8_method_7_code_32 9 rfl rfl) ?_
        refine zunrf g11.1 ?_
        refine zget (ci := 4) (C := RX4) (T := TX4) (v := .int (iI (F 4 (B 6 l0 0 l1) 3))) (k := 3) hx hb hts inW_4 hown hK hZ g11.1 g11.2 rfl (by decide) k_4_126 rfl (D_180 W_prog_8_method_7_code_32 10 rfl rfl rfl) ?_
        refine zmul hx hb (D_104 W_prog_8_method_7_code_32 13 rfl rfl) ?_
        refine zadd hx hb (D_96 W_prog_8_method_7_code_32 14 rfl rfl) ?_
        cases hf
        exact W.iret hx hb hr (fun t ht hW => ⟨⟨_, (), rfl, rfl, by rw [ht]; exact hZ, va_K.moved hW.alike hK⟩, hS.F ht⟩) hS.2.2 (D_172 W_prog_8_method_7_code_32 15 rfl rfl) hlk

def f_Piece_judgeEnds (K : zK) (l0 : Int) (F : zF) (B : zB) : zO := f_Piece_judgeEnds_2 K K.1 1 l0 F B
set_option maxHeartbeats 4000000 in
set_option maxRecDepth 100000 in
theorem c_Piece_judgeEnds {l : Launch} {D : va_G} {ca : Nat → ClassId} {ad : Nat → Int → Nat → Nat} {L : List Nat} {aS vS : Nat → Nat} {sz : Nat} {K : zK}  {l0 : Int} {F F9 : zF} {B B9 : zB} {r : Int} (hf : f_Piece_judgeEnds K l0 F B = some (r, F9, B9)) : Met l ({ cls := "StaveHouse$Piece", name := "judgeEnds", desc := "()I" } : Jvm.MethodName) (Cond.code ({ cls := "StaveHouse$Piece", name := "judgeEnds", desc := "()I" } : Jvm.MethodName) prog_8_method_7_code 3 (Option.some Jvm.ClassFile.FieldType.int) :: wAll) ({ frames := 2, cells := 0, slots := 0, locals := 35 } : Room) (va_Pc [.ref (ad 6 l0 0)] (zPre D ca ad lnC K.2 L aS vS F B sz)) (Q_Piece_judgeEnds K D ca ad L r F9 B9 (zA L sz)) 0 0 (zA L sz) := by
  refine zMet (Qc := Q_Piece_judgeEnds K D ca ad L r F9 B9) (lv := [(0, .ref (ad 6 l0 0))]) (by decide) (Nat.le_of_ble_eq_true rfl) rfl (fun A p e s m below meth c ls X hZ hS hl => ?_)
  obtain ⟨hx, hb, hr, hml, hown, hts, hlk, hK, hA, hL, hX⟩ := id X
  replace hf : (f_Piece_judgeEnds_2 K K.1 1 l0 F B) = some (r, F9, B9) := hf
  refine lv_iconst (v := iI 1) hx hb (D_4 W_prog_8_method_7_code_0 0 rfl rfl) rfl ?_
  refine lv_istore_n (lv' := [(1, .int (iI 1)), (0, .ref (ad 6 l0 0))]) hx hb (D_60 W_prog_8_method_7_code_0 1 rfl rfl) rfl hl (by decide) rfl (fun ls hl => ?_)
  exact b_Piece_judgeEnds_2 X hf hZ hS (lv_sub hl [0, 1] rfl)

abbrev Q_S_pieceAt (K : zK) (D : va_G) (ca : Nat → ClassId) (ad : Nat → Int → Nat → Nat) (L : List Nat) (r : Int) (F : zF) (B : zB) (A : Nat → Prop) : Array Value → State → Outcome → State → Prop := va_Qq (S := Unit) (fun p _ => p = zrf ad 6 r) (fun _ => zPo D ca ad lnC K.2 L F B A) A
def f_S_pieceAt_19 (K : zK) (s0 : Int) (F : zF) (B : zB) : zO := some (s0, F, B)
set_option maxHeartbeats 4000000 in
set_option maxRecDepth 100000 in
theorem b_S_pieceAt_19 {D : va_G} {ca : Nat → ClassId} {ad : Nat → Int → Nat → Nat} {L : List Nat} {aS vS : Nat → Nat} {A : Nat → Prop} {p : Program} {l : Launch} {e : Env} {s : State} {m : MethodId} {args : Array Value} {below : List Frame} {meth : Method} {c : Code} {K : zK} {r : Int} {F9 : zF} {B9 : zB} (X : zX D ca L aS vS A p s m args meth c prog_1_method_6_code 2 (Option.some (Jvm.ClassFile.FieldType.object "StaveHouse$Piece")) "StaveHouse") {s0 : Int} {F : zF} {B : zB} {H : Heap} {locs : List Loc} {ls : Array Slot} (hf : f_S_pieceAt_19 K s0 F B = some (r, F9, B9)) (hZ : zH D ca ad lnC K.2 L F B A H) (hS : va_S A s.heap H locs) (hl : lv_has ls 2 []) : W p l e ({ frames := 0, cells := 0, slots := 0, locals := 0 } : Room) s m args below meth c H locs 0 0 (MQ below (Q_S_pieceAt K D ca ad L r F9 B9 A) args s 0 0 A) (F0 m 19 ls [va_rf (zrf ad 6 s0)]) := by
  obtain ⟨hx, hb, hr, hml, hown, hts, hlk, hK, hA, hL, hX⟩ := id X
  replace hf : (some (s0, F, B)) = some (r, F9, B9) := hf
  cases hf
  exact W.aret hx hb hr (Or.inl ⟨_, rfl⟩) (va_rf_or _) (fun t ht hW => ⟨⟨_, (), rfl, rfl, by rw [ht]; exact hZ, va_K.moved hW.alike hK⟩, hS.F ht⟩) hS.2.2 (D_176 W_prog_1_method_6_code_0 19 rfl rfl) hlk

def f_S_pieceAt_9 (K : zK)  (F : zF) (B : zB) : zO := f_S_pieceAt_19 K (-1) F B
set_option maxHeartbeats 4000000 in
set_option maxRecDepth 100000 in
theorem b_S_pieceAt_9 {D : va_G} {ca : Nat → ClassId} {ad : Nat → Int → Nat → Nat} {L : List Nat} {aS vS : Nat → Nat} {A : Nat → Prop} {p : Program} {l : Launch} {e : Env} {s : State} {m : MethodId} {args : Array Value} {below : List Frame} {meth : Method} {c : Code} {K : zK} {r : Int} {F9 : zF} {B9 : zB} (X : zX D ca L aS vS A p s m args meth c prog_1_method_6_code 2 (Option.some (Jvm.ClassFile.FieldType.object "StaveHouse$Piece")) "StaveHouse")  {F : zF} {B : zB} {H : Heap} {locs : List Loc} {ls : Array Slot} (hf : f_S_pieceAt_9 K  F B = some (r, F9, B9)) (hZ : zH D ca ad lnC K.2 L F B A H) (hS : va_S A s.heap H locs) (hl : lv_has ls 2 []) : W p l e ({ frames := 0, cells := 0, slots := 0, locals := 0 } : Room) s m args below meth c H locs 0 0 (MQ below (Q_S_pieceAt K D ca ad L r F9 B9 A) args s 0 0 A) (F0 m 9 ls []) := by
  obtain ⟨hx, hb, hr, hml, hown, hts, hlk, hK, hA, hL, hX⟩ := id X
  replace hf : (f_S_pieceAt_19 K (-1) F B) = some (r, F9, B9) := hf
  refine lv_null hx hb (D_1 W_prog_1_method_6_code_0 9 rfl rfl) ?_
  refine W.eq (g2 := F0 m 10 ls [va_rf (zrf ad 6 (-1))]) rfl ?_
  refine lv_goto (tgt := 19) hx hb (D_167 W_prog_1_method_6_code_0 10 rfl rfl rfl) (by decide) ?_
  exact b_S_pieceAt_19 X hf hZ hS (lv_sub hl [] rfl)

def f_S_pieceAt (K : zK) (l0 : Int) (l1 : Int) (F : zF) (B : zB) : zO := if r32 l1 then (if l1 < 0 then f_S_pieceAt_9 K F B else (if l1 < 2 then if 0 ≤ l0 ∧ l0 < K.2 12 then if 0 ≤ l1 ∧ l1 < 2 then f_S_pieceAt_19 K (B 12 l0 3 l1) F B else none else none else f_S_pieceAt_9 K F B)) else none
set_option maxHeartbeats 4000000 in
set_option maxRecDepth 100000 in
theorem c_S_pieceAt {l : Launch} {D : va_G} {ca : Nat → ClassId} {ad : Nat → Int → Nat → Nat} {L : List Nat} {aS vS : Nat → Nat} {sz : Nat} {K : zK}  {l0 : Int} {l1 : Int} {F F9 : zF} {B B9 : zB} {r : Int} (hf : f_S_pieceAt K l0 l1 F B = some (r, F9, B9)) : Met l ({ cls := "StaveHouse", name := "pieceAt", desc := "(I)LStaveHouse$Piece;" } : Jvm.MethodName) (Cond.code ({ cls := "StaveHouse", name := "pieceAt", desc := "(I)LStaveHouse$Piece;" } : Jvm.MethodName) prog_1_method_6_code 2 (Option.some (Jvm.ClassFile.FieldType.object "StaveHouse$Piece")) :: wAll) ({ frames := 0, cells := 0, slots := 0, locals := 0 } : Room) (va_Pc [.ref (ad 12 l0 0), .int (iI l1)] (zPre D ca ad lnC K.2 L aS vS F B sz)) (Q_S_pieceAt K D ca ad L r F9 B9 (zA L sz)) 0 0 (zA L sz) := by
  refine zMet (Qc := Q_S_pieceAt K D ca ad L r F9 B9) (lv := [(0, .ref (ad 12 l0 0)), (1, .int (iI l1))]) (by decide) (Nat.le_of_ble_eq_true rfl) rfl (fun A p e s m below meth c ls X hZ hS hl => ?_)
  obtain ⟨hx, hb, hr, hml, hown, hts, hlk, hK, hA, hL, hX⟩ := id X
  replace hf : (if r32 l1 then (if l1 < 0 then f_S_pieceAt_9 K F B else (if l1 < 2 then if 0 ≤ l0 ∧ l0 < K.2 12 then if 0 ≤ l1 ∧ l1 < 2 then f_S_pieceAt_19 K (B 12 l0 3 l1) F B else none else none else f_S_pieceAt_9 K F B)) else none) = some (r, F9, B9) := hf
  refine lv_iload_n hx hb (D_27 W_prog_1_method_6_code_0 0 rfl rfl) rfl (lv_at hl 1 rfl) ?_
  obtain ⟨g1, hf⟩ := gif hf
  refine z0lt (tgt := 9) hx hb g1 (D_155 W_prog_1_method_6_code_0 1 rfl rfl rfl) (by decide) (fun h2 => ?_) (fun h2 => ?_)
  · replace hf := gpos hf h2
    exact b_S_pieceAt_9 X hf hZ hS (lv_sub hl [] rfl)
  · replace hf := gneg hf h2
    refine lv_iload_n hx hb (D_27 W_prog_1_method_6_code_0 4 rfl rfl) rfl (lv_at hl 1 rfl) ?_
    refine lv_iconst (v := iI 2) hx hb (D_5 W_prog_1_method_6_code_0 5 rfl rfl) rfl ?_
    refine zlt (tgt := 13) hx hb g1 (by decide) (D_161 W_prog_1_method_6_code_0 6 rfl rfl rfl) (by decide) (fun h3 => ?_) (fun h3 => ?_)
    · replace hf := gpos hf h3
      refine lv_aload_n hx hb (D_42 W_prog_1_method_6_code_0 13 rfl rfl) rfl (lv_at hl 0 rfl) ?_
      obtain ⟨g4, hf⟩ := gif hf
      refine zget (ci := 12) (C := RX12) (T := TX12) (v := .ref (ad 12 l0 (3 + 1))) (k := 3) hx hb hts inW_12 hown hK hZ g4.1 g4.2 rfl (by decide) k_2_130 rfl (D_180 W_prog_1_method_6_code_0 14 rfl rfl rfl) ?_
      refine lv_iload_n hx hb (D_27 W_prog_1_method_6_code_0 17 rfl rfl) rfl (lv_at hl 1 rfl) ?_
      obtain ⟨g5, hf⟩ := gif hf
      refine zaldR (t := 6) (x := 4) (ci := 12) (k := 3) hx hb hK rfl rfl hZ g4.1 g4.2 rfl (Nat.le_of_ble_eq_true rfl) g5.1 g5.2 (D_50 W_prog_1_method_6_code_0 18 rfl rfl) ?_
      exact b_S_pieceAt_19 X hf hZ hS (lv_sub hl [] rfl)
    · replace hf := gneg hf h3
      exact b_S_pieceAt_9 X hf hZ hS (lv_sub hl [] rfl)

abbrev Q_Study_nextPlace (K : zK) (D : va_G) (ca : Nat → ClassId) (ad : Nat → Int → Nat → Nat) (L : List Nat) (r : Int) (F : zF) (B : zB) (A : Nat → Prop) : Array Value → State → Outcome → State → Prop := va_Ql (S := Unit) (fun p _ => p = lI r) (fun _ => zPo D ca ad lnC K.2 L F B A) A
def f_Study_nextPlace_82 (rec7 : Int → Int → Int → Int → Int → zF → zB → zO) (K : zK) (l5 : Int) (l3 : Int) (l0 : Int) (l1 : Int) (l2 : Int) (F : zF) (B : zB) : zO := rec7 (l5 + 1) l3 l0 l1 l2 F B
set_option maxHeartbeats 4000000 in
set_option maxRecDepth 100000 in
theorem b_Study_nextPlace_82 {D : va_G} {ca : Nat → ClassId} {ad : Nat → Int → Nat → Nat} {L : List Nat} {aS vS : Nat → Nat} {A : Nat → Prop} {p : Program} {l : Launch} {e : Env} {s : State} {m : MethodId} {args : Array Value} {below : List Frame} {meth : Method} {c : Code} {K : zK} {r : Int} {F9 : zF} {B9 : zB} (X : zX D ca L aS vS A p s m args meth c prog_11_method_4_code 8 (Option.some Jvm.ClassFile.FieldType.long) "StaveHouse$Study") {rec7 : Int → Int → Int → Int → Int → zF → zB → zO} (hrec7 : ∀ {l5 : Int} {l3 : Int} {l0 : Int} {l1 : Int} {l2 : Int} {F : zF} {B : zB} {H : Heap} {locs : List Loc} {ls : Array Slot}, rec7 l5 l3 l0 l1 l2 F B = some (r, F9, B9) → zH D ca ad lnC K.2 L F B A H → va_S A s.heap H locs → lv_has ls 8 [(5, .int (iI l5)), (3, .long (lI l3)), (0, .ref (ad 9 l0 0)), (1, .ref (ad 6 l1 0)), (2, .int (iI l2))] → W p l e ({ frames := 0, cells := 0, slots := 0, locals := 0 } : Room) s m args below meth c H locs 0 0 (MQ below (Q_Study_nextPlace K D ca ad L r F9 B9 A) args s 0 0 A) (F0 m 7 ls [])) {l5 : Int} {l3 : Int} {l0 : Int} {l1 : Int} {l2 : Int} {F : zF} {B : zB} {H : Heap} {locs : List Loc} {ls : Array Slot} (hf : f_Study_nextPlace_82 rec7 K l5 l3 l0 l1 l2 F B = some (r, F9, B9)) (hZ : zH D ca ad lnC K.2 L F B A H) (hS : va_S A s.heap H locs) (hl : lv_has ls 8 [(5, .int (iI l5)), (3, .long (lI l3)), (0, .ref (ad 9 l0 0)), (1, .ref (ad 6 l1 0)), (2, .int (iI l2))]) : W p l e ({ frames := 0, cells := 0, slots := 0, locals := 0 } : Room) s m args below meth c H locs 0 0 (MQ below (Q_Study_nextPlace K D ca ad L r F9 B9 A) args s 0 0 A) (F0 m 82 ls []) := by
  obtain ⟨hx, hb, hr, hml, hown, hts, hlk, hK, hA, hL, hX⟩ := id X
  replace hf : (rec7 (l5 + 1) l3 l0 l1 l2 F B) = some (r, F9, B9) := hf
  refine lv_iinc (v := iI (l5 + 1)) (lv' := [(5, .int (iI (l5 + 1))), (3, .long (lI l3)), (0, .ref (ad 9 l0 0)), (1, .ref (ad 6 l1 0)), (2, .int (iI l2))]) hx hb d_11_4_82 hl (k := 0) rfl (iI_add _ 1) (by decide) rfl (fun ls hl => ?_)
  refine lv_goto (tgt := 7) hx hb (D_167 W_prog_11_method_4_code_64 21 rfl rfl rfl) (by decide) ?_
  exact hrec7 hf hZ hS (lv_sub hl [0, 1, 2, 3, 4] rfl)

def f_Study_nextPlace_70 (rec7 : Int → Int → Int → Int → Int → zF → zB → zO) (K : zK) (l7 : Int) (l6 : Int) (l5 : Int) (l0 : Int) (l1 : Int) (l2 : Int) (F : zF) (B : zB) : zO := if 0 ≤ l6 ∧ l6 < K.2 4 then if 0 ≤ l7 ∧ l7 < 200 then if 0 ≤ (B 4 l6 5 l7) ∧ (B 4 l6 5 l7) < K.2 1 then f_Study_nextPlace_82 rec7 K l5 (F 1 (B 4 l6 5 l7) 0) l0 l1 l2 F B else none else none else none
set_option maxHeartbeats 4000000 in
set_option maxRecDepth 100000 in
theorem b_Study_nextPlace_70 {D : va_G} {ca : Nat → ClassId} {ad : Nat → Int → Nat → Nat} {L : List Nat} {aS vS : Nat → Nat} {A : Nat → Prop} {p : Program} {l : Launch} {e : Env} {s : State} {m : MethodId} {args : Array Value} {below : List Frame} {meth : Method} {c : Code} {K : zK} {r : Int} {F9 : zF} {B9 : zB} (X : zX D ca L aS vS A p s m args meth c prog_11_method_4_code 8 (Option.some Jvm.ClassFile.FieldType.long) "StaveHouse$Study") {rec7 : Int → Int → Int → Int → Int → zF → zB → zO} (hrec7 : ∀ {l5 : Int} {l3 : Int} {l0 : Int} {l1 : Int} {l2 : Int} {F : zF} {B : zB} {H : Heap} {locs : List Loc} {ls : Array Slot}, rec7 l5 l3 l0 l1 l2 F B = some (r, F9, B9) → zH D ca ad lnC K.2 L F B A H → va_S A s.heap H locs → lv_has ls 8 [(5, .int (iI l5)), (3, .long (lI l3)), (0, .ref (ad 9 l0 0)), (1, .ref (ad 6 l1 0)), (2, .int (iI l2))] → W p l e ({ frames := 0, cells := 0, slots := 0, locals := 0 } : Room) s m args below meth c H locs 0 0 (MQ below (Q_Study_nextPlace K D ca ad L r F9 B9 A) args s 0 0 A) (F0 m 7 ls [])) {l7 : Int} {l6 : Int} {l5 : Int} {l0 : Int} {l1 : Int} {l2 : Int} {F : zF} {B : zB} {H : Heap} {locs : List Loc} {ls : Array Slot} (hf : f_Study_nextPlace_70 rec7 K l7 l6 l5 l0 l1 l2 F B = some (r, F9, B9)) (hZ : zH D ca ad lnC K.2 L F B A H) (hS : va_S A s.heap H locs) (hl : lv_has ls 8 [(7, .int (iI l7)), (6, va_rf (zrf ad 4 l6)), (5, .int (iI l5)), (0, .ref (ad 9 l0 0)), (1, .ref (ad 6 l1 0)), (2, .int (iI l2))]) : W p l e ({ frames := 0, cells := 0, slots := 0, locals := 0 } : Room) s m args below meth c H locs 0 0 (MQ below (Q_Study_nextPlace K D ca ad L r F9 B9 A) args s 0 0 A) (F0 m 70 ls []) := by
  obtain ⟨hx, hb, hr, hml, hown, hts, hlk, hK, hA, hL, hX⟩ := id X
  replace hf : (if 0 ≤ l6 ∧ l6 < K.2 4 then if 0 ≤ l7 ∧ l7 < 200 then if 0 ≤ (B 4 l6 5 l7) ∧ (B 4 l6 5 l7) < K.2 1 then f_Study_nextPlace_82 rec7 K l5 (F 1 (B 4 l6 5 l7) 0) l0 l1 l2 F B else none else none else none) = some (r, F9, B9) := hf
  refine zaload hx hb (D_25 W_prog_11_method_4_code_64 6 rfl rfl) (lv_at hl 1 rfl) ?_
  obtain ⟨g18, hf⟩ := gif hf
  refine zunrf g18.1 ?_
  refine zget (ci := 4) (C := RX4) (T := TX4) (v := .ref (ad 4 l6 (5 + 1))) (k := 5) hx hb hts inW_4 hown hK hZ g18.1 g18.2 rfl (by decide) k_4_132 rfl (D_180 W_prog_11_method_4_code_64 8 rfl rfl rfl) ?_
  refine lv_iload hx hb (D_21 W_prog_11_method_4_code_64 11 rfl rfl) (lv_at hl 0 rfl) ?_
  obtain ⟨g19, hf⟩ := gif hf
  refine zaldR (t := 1) (x := 7) (ci := 4) (k := 5) hx hb hK rfl rfl hZ g18.1 g18.2 rfl (Nat.le_of_ble_eq_true rfl) g19.1 g19.2 (D_50 W_prog_11_method_4_code_64 13 rfl rfl) ?_
  obtain ⟨g20, hf⟩ := gif hf
  refine zunrf g20.1 ?_
  refine zget (ci := 1) (C := RX1) (T := TX1) (v := .long (lI (F 1 (B 4 l6 5 l7) 0))) (k := 0) hx hb hts inW_1 hown hK hZ g20.1 g20.2 rfl (by decide) k_2_20 rfl (D_180 W_prog_11_method_4_code_64 14 rfl rfl rfl) ?_
  refine lv_lstore_n (lv' := [(3, .long (lI (F 1 (B 4 l6 5 l7) 0))), (7, .int (iI l7)), (6, va_rf (zrf ad 4 l6)), (5, .int (iI l5)), (0, .ref (ad 9 l0 0)), (1, .ref (ad 6 l1 0)), (2, .int (iI l2))]) hx hb (D_66 W_prog_11_method_4_code_64 17 rfl rfl) rfl hl (by decide) rfl (fun ls hl => ?_)
  exact b_Study_nextPlace_82 X hrec7 hf hZ hS (lv_sub hl [3, 0, 4, 5, 6] rfl)

def f_Study_nextPlace_7 (K : zK) : Nat → Int → Int → Int → Int → Int → zF → zB → zO
  | 0, _, _, _, _, _, _, _ => none
  | n + 1, l5, l3, l0, l1, l2, F, B => if 0 ≤ l1 ∧ l1 < K.2 6 then if r32 l5 then if r32 (F 6 l1 1) then (if (F 6 l1 1) ≤ l5 then some (l3, F, B) else if 0 ≤ l5 ∧ l5 < 4 then if 0 ≤ l0 ∧ l0 < K.2 9 then if 0 ≤ l2 ∧ l2 < 800 then if 0 ≤ (B 6 l1 0 l5) ∧ (B 6 l1 0 l5) < K.2 4 then if r32 ((B 9 l0 (280 + l5.toNat) l2) + 1) then if r32 (F 4 (B 6 l1 0 l5) 6) then (if (F 4 (B 6 l1 0 l5) 6) ≤ ((B 9 l0 (280 + l5.toNat) l2) + 1) then f_Study_nextPlace_82 (f_Study_nextPlace_7 K n) K l5 l3 l0 l1 l2 F B else if r64 l3 then (if (zcmp l3 0) < 0 then f_Study_nextPlace_70 (f_Study_nextPlace_7 K n) K ((B 9 l0 (280 + l5.toNat) l2) + 1) (B 6 l1 0 l5) l5 l0 l1 l2 F B else if 0 ≤ ((B 9 l0 (280 + l5.toNat) l2) + 1) ∧ ((B 9 l0 (280 + l5.toNat) l2) + 1) < 200 then if 0 ≤ (B 4 (B 6 l1 0 l5) 5 ((B 9 l0 (280 + l5.toNat) l2) + 1)) ∧ (B 4 (B 6 l1 0 l5) 5 ((B 9 l0 (280 + l5.toNat) l2) + 1)) < K.2 1 then if r64 (F 1 (B 4 (B 6 l1 0 l5) 5 ((B 9 l0 (280 + l5.toNat) l2) + 1)) 0) then (if 0 ≤ (zcmp (F 1 (B 4 (B 6 l1 0 l5) 5 ((B 9 l0 (280 + l5.toNat) l2) + 1)) 0) l3) then f_Study_nextPlace_82 (f_Study_nextPlace_7 K n) K l5 l3 l0 l1 l2 F B else f_Study_nextPlace_70 (f_Study_nextPlace_7 K n) K ((B 9 l0 (280 + l5.toNat) l2) + 1) (B 6 l1 0 l5) l5 l0 l1 l2 F B) else none else none else none) else none) else none else none else none else none else none else none) else none else none else none
set_option maxHeartbeats 4000000 in
set_option maxRecDepth 100000 in
theorem b_Study_nextPlace_7 {D : va_G} {ca : Nat → ClassId} {ad : Nat → Int → Nat → Nat} {L : List Nat} {aS vS : Nat → Nat} {A : Nat → Prop} {p : Program} {l : Launch} {e : Env} {s : State} {m : MethodId} {args : Array Value} {below : List Frame} {meth : Method} {c : Code} {K : zK} {r : Int} {F9 : zF} {B9 : zB} (X : zX D ca L aS vS A p s m args meth c prog_11_method_4_code 8 (Option.some Jvm.ClassFile.FieldType.long) "StaveHouse$Study") : ∀ {n : Nat} {l5 : Int} {l3 : Int} {l0 : Int} {l1 : Int} {l2 : Int} {F : zF} {B : zB} {H : Heap} {locs : List Loc} {ls : Array Slot}, f_Study_nextPlace_7 K n l5 l3 l0 l1 l2 F B = some (r, F9, B9) → zH D ca ad lnC K.2 L F B A H → va_S A s.heap H locs → lv_has ls 8 [(5, .int (iI l5)), (3, .long (lI l3)), (0, .ref (ad 9 l0 0)), (1, .ref (ad 6 l1 0)), (2, .int (iI l2))] → W p l e ({ frames := 0, cells := 0, slots := 0, locals := 0 } : Room) s m args below meth c H locs 0 0 (MQ below (Q_Study_nextPlace K D ca ad L r F9 B9 A) args s 0 0 A) (F0 m 7 ls []) := by
  obtain ⟨hx, hb, hr, hml, hown, hts, hlk, hK, hA, hL, hX⟩ := id X
  intro n
  induction n with
  | zero =>
    intros
    rename_i hf _ _ _
    cases hf
  | succ n ih =>
    intro l5 l3 l0 l1 l2 F B H locs ls hf hZ hS hl
    replace hf : (if 0 ≤ l1 ∧ l1 < K.2 6 then if r32 l5 then if r32 (F 6 l1 1) then (if (F 6 l1 1) ≤ l5 then some (l3, F, B) else if 0 ≤ l5 ∧ l5 < 4 then if 0 ≤ l0 ∧ l0 < K.2 9 then if 0 ≤ l2 ∧ l2 < 800 then if 0 ≤ (B 6 l1 0 l5) ∧ (B 6 l1 0 l5) < K.2 4 then if r32 ((B 9 l0 (280 + l5.toNat) l2) + 1) then if r32 (F 4 (B 6 l1 0 l5) 6) then (if (F 4 (B 6 l1 0 l5) 6) ≤ ((B 9 l0 (280 + l5.toNat) l2) + 1) then f_Study_nextPlace_82 (f_Study_nextPlace_7 K n) K l5 l3 l0 l1 l2 F B else if r64 l3 then (if (zcmp l3 0) < 0 then f_Study_nextPlace_70 (f_Study_nextPlace_7 K n) K ((B 9 l0 (280 + l5.toNat) l2) + 1) (B 6 l1 0 l5) l5 l0 l1 l2 F B else if 0 ≤ ((B 9 l0 (280 + l5.toNat) l2) + 1) ∧ ((B 9 l0 (280 + l5.toNat) l2) + 1) < 200 then if 0 ≤ (B 4 (B 6 l1 0 l5) 5 ((B 9 l0 (280 + l5.toNat) l2) + 1)) ∧ (B 4 (B 6 l1 0 l5) 5 ((B 9 l0 (280 + l5.toNat) l2) + 1)) < K.2 1 then if r64 (F 1 (B 4 (B 6 l1 0 l5) 5 ((B 9 l0 (280 + l5.toNat) l2) + 1)) 0) then (if 0 ≤ (zcmp (F 1 (B 4 (B 6 l1 0 l5) 5 ((B 9 l0 (280 + l5.toNat) l2) + 1)) 0) l3) then f_Study_nextPlace_82 (f_Study_nextPlace_7 K n) K l5 l3 l0 l1 l2 F B else f_Study_nextPlace_70 (f_Study_nextPlace_7 K n) K ((B 9 l0 (280 + l5.toNat) l2) + 1) (B 6 l1 0 l5) l5 l0 l1 l2 F B) else none else none else none) else none) else none else none else none else none else none else none) else none else none else none) = some (r, F9, B9) := hf
    refine lv_iload hx hb (D_21 W_prog_11_method_4_code_0 7 rfl rfl) (lv_at hl 0 rfl) ?_
    refine lv_aload_n hx hb (D_43 W_prog_11_method_4_code_0 9 rfl rfl) rfl (lv_at hl 3 rfl) ?_
    obtain ⟨g1, hf⟩ := gif hf
    refine zget (ci := 6) (C := RX6) (T := TX6) (v := .int (iI (F 6 l1 1))) (k := 1) hx hb hts inW_6 hown hK hZ g1.1 g1.2 rfl (by decide) k_2_192 rfl (D_180 W_prog_11_method_4_code_0 10 rfl rfl rfl) ?_
    obtain ⟨g2, hf⟩ := gif hf
    obtain ⟨g3, hf⟩ := gif hf
    refine zge (tgt := 88) hx hb g2 g3 (D_162 W_prog_11_method_4_code_0 13 rfl rfl rfl) (by decide) (fun h4 => ?_) (fun h4 => ?_)
    · replace hf := gpos hf h4
      refine lv_lload_n hx hb (D_33 W_prog_11_method_4_code_64 24 rfl rfl) rfl (lv_at hl 1 rfl) ?_
      cases hf
      exact W.lret hx hb hr (fun t ht hW => ⟨⟨_, (), rfl, rfl, by rw [ht]; exact hZ, va_K.moved hW.alike hK⟩, hS.F ht⟩) hS.2.2 (D_173 W_prog_11_method_4_code_64 25 rfl rfl) hlk
    · replace hf := gneg hf h4
      refine lv_aload_n hx hb (D_43 W_prog_11_method_4_code_0 16 rfl rfl) rfl (lv_at hl 3 rfl) ?_
      refine zget (ci := 6) (C := RX6) (T := TX6) (v := .ref (ad 6 l1 (0 + 1))) (k := 0) hx hb hts inW_6 hown hK hZ g1.1 g1.2 rfl (by decide) k_2_187 rfl (D_180 W_prog_11_method_4_code_0 17 rfl rfl rfl) ?_
      refine lv_iload hx hb (D_21 W_prog_11_method_4_code_0 20 rfl rfl) (lv_at hl 0 rfl) ?_
      obtain ⟨g5, hf⟩ := gif hf
      refine zaldR (t := 4) (x := 6) (ci := 6) (k := 0) hx hb hK rfl rfl hZ g1.1 g1.2 rfl (Nat.le_of_ble_eq_true rfl) g5.1 g5.2 (D_50 W_prog_11_method_4_code_0 22 rfl rfl) ?_
      refine zastore (lv' := [(5, .int (iI l5)), (3, .long (lI l3)), (0, .ref (ad 9 l0 0)), (1, .ref (ad 6 l1 0)), (2, .int (iI l2))]) hx hb (D_58 W_prog_11_method_4_code_0 23 rfl rfl) hl (by decide) (fun _ _ => rfl) (fun ls hl => ?_)
      refine lv_aload_n hx hb (D_42 W_prog_11_method_4_code_0 25 rfl rfl) rfl (lv_at hl 3 rfl) ?_
      obtain ⟨g6, hf⟩ := gif hf
      refine zget (ci := 9) (C := RX9) (T := TX9) (v := .ref (ad 9 l0 (4 + 1))) (k := 4) hx hb hts inW_9 hown hK hZ g6.1 g6.2 rfl (by decide) k_5_205 rfl (D_180 W_prog_11_method_4_code_0 26 rfl rfl rfl) ?_
      refine lv_iload hx hb (D_21 W_prog_11_method_4_code_0 29 rfl rfl) (lv_at hl 1 rfl) ?_
      refine zaldQ (t := 0) (ci := 9) (k := 4) hx hb hK rfl hZ g6.1 g6.2 rfl (Nat.le_of_ble_eq_true rfl) g5.1 g5.2 (D_50 W_prog_11_method_4_code_0 31 rfl rfl) ?_
      refine W.eq (g2 := F0 m 32 ls [.ref (ad 9 l0 (280 + l5.toNat + 1))]) rfl ?_
      refine lv_iload_n hx hb (D_28 W_prog_11_method_4_code_32 0 rfl rfl) rfl (lv_at hl 5 rfl) ?_
      obtain ⟨g7, hf⟩ := gif hf
      refine zald (ci := 9) (k := (280 + l5.toNat)) hx hb hK rfl hZ g6.1 g6.2 (zkq (c := 9) (b := 280) (n := 4) (t := 0) (by decide) g5.1 g5.2) (lnq_le (c := 9) (b := 280) (n := 4) (m := 800) (by decide) (by decide) (by decide) g5.1 g5.2) g7.1 (lnq_lt (c := 9) (b := 280) (n := 4) (m := 800) (by decide) (by decide) g5.1 g5.2 g7.2) (D_46 W_prog_11_method_4_code_32 1 rfl rfl) ?_
      refine lv_iconst (v := iI 1) hx hb (D_4 W_prog_11_method_4_code_32 2 rfl rfl) rfl ?_
      refine zadd hx hb (D_96 W_prog_11_method_4_code_32 3 rfl rfl) ?_
      refine lv_istore (lv' := [(7, .int (iI ((B 9 l0 (280 + l5.toNat) l2) + 1))), (6, va_rf (zrf ad 4 (B 6 l1 0 l5))), (5, .int (iI l5)), (3, .long (lI l3)), (0, .ref (ad 9 l0 0)), (1, .ref (ad 6 l1 0)), (2, .int (iI l2))]) hx hb (D_54 W_prog_11_method_4_code_32 4 rfl rfl) hl (by decide) (by cases zrf ad 4 (B 6 l1 0 l5) <;> rfl) (fun ls hl => ?_)
      refine lv_iload hx hb (D_21 W_prog_11_method_4_code_32 6 rfl rfl) (lv_at hl 0 rfl) ?_
      refine zaload hx hb (D_25 W_prog_11_method_4_code_32 8 rfl rfl) (lv_at hl 1 rfl) ?_
      obtain ⟨g8, hf⟩ := gif hf
      refine zunrf g8.1 ?_
      refine zget (ci := 4) (C := RX4) (T := TX4) (v := .int (iI (F 4 (B 6 l1 0 l5) 6))) (k := 6) hx hb hts inW_4 hown hK hZ g8.1 g8.2 rfl (by decide) k_4_137 rfl (D_180 W_prog_11_method_4_code_32 10 rfl rfl rfl) ?_
      obtain ⟨g9, hf⟩ := gif hf
      obtain ⟨g10, hf⟩ := gif hf
      refine zge (tgt := 82) hx hb g9 g10 (D_162 W_prog_11_method_4_code_32 13 rfl rfl rfl) (by decide) (fun h11 => ?_) (fun h11 => ?_)
      · replace hf := gpos hf h11
        exact b_Study_nextPlace_82 X ih hf hZ hS (lv_sub hl [2, 3, 4, 5, 6] rfl)
      · replace hf := gneg hf h11
        refine lv_lload_n hx hb (D_33 W_prog_11_method_4_code_32 16 rfl rfl) rfl (lv_at hl 3 rfl) ?_
        refine lv_lconst (v := lI 0) hx hb (D_9 W_prog_11_method_4_code_32 17 rfl rfl) (by decide) ?_
        obtain ⟨g12, hf⟩ := gif hf
        refine zcmp_r hx hb g12 (by decide) (D_148 W_prog_11_method_4_code_32 18 rfl rfl) ?_
        refine z0lt (tgt := 70) hx hb zcmp_32 (D_155 W_prog_11_method_4_code_32 19 rfl rfl rfl) (by decide) (fun h13 => ?_) (fun h13 => ?_)
        · replace hf := gpos hf h13
          exact b_Study_nextPlace_70 X ih hf hZ hS (lv_sub hl [0, 1, 2, 4, 5, 6] rfl)
        · replace hf := gneg hf h13
          refine zaload hx hb (D_25 W_prog_11_method_4_code_32 22 rfl rfl) (lv_at hl 1 rfl) ?_
          refine zunrf g8.1 ?_
          refine zget (ci := 4) (C := RX4) (T := TX4) (v := .ref (ad 4 (B 6 l1 0 l5) (5 + 1))) (k := 5) hx hb hts inW_4 hown hK hZ g8.1 g8.2 rfl (by decide) k_4_132 rfl (D_180 W_prog_11_method_4_code_32 24 rfl rfl rfl) ?_
          refine lv_iload hx hb (D_21 W_prog_11_method_4_code_32 27 rfl rfl) (lv_at hl 0 rfl) ?_
          obtain ⟨g14, hf⟩ := gif hf
          refine zaldR (t := 1) (x := 7) (ci := 4) (k := 5) hx hb hK rfl rfl hZ g8.1 g8.2 rfl (Nat.le_of_ble_eq_true rfl) g14.1 g14.2 (D_50 W_prog_11_method_4_code_32 29 rfl rfl) ?_
          obtain ⟨g15, hf⟩ := gif hf
          refine zunrf g15.1 ?_
          refine zget (ci := 1) (C := RX1) (T := TX1) (v := .long (lI (F 1 (B 4 (B 6 l1 0 l5) 5 ((B 9 l0 (280 + l5.toNat) l2) + 1)) 0))) (k := 0) hx hb hts inW_1 hown hK hZ g15.1 g15.2 rfl (by decide) k_2_20 rfl (D_180 W_prog_11_method_4_code_32 30 rfl rfl rfl) ?_
          refine lv_lload_n hx hb (D_33 W_prog_11_method_4_code_64 1 rfl rfl) rfl (lv_at hl 3 rfl) ?_
          obtain ⟨g16, hf⟩ := gif hf
          refine zcmp_r hx hb g16 g12 (D_148 W_prog_11_method_4_code_64 2 rfl rfl) ?_
          refine z0ge (tgt := 82) hx hb zcmp_32 (D_156 W_prog_11_method_4_code_64 3 rfl rfl rfl) (by decide) (fun h17 => ?_) (fun h17 => ?_)
          · replace hf := gpos hf h17
            exact b_Study_nextPlace_82 X ih hf hZ hS (lv_sub hl [2, 3, 4, 5, 6] rfl)
          · replace hf := gneg hf h17
            exact b_Study_nextPlace_70 X ih hf hZ hS (lv_sub hl [0, 1, 2, 4, 5, 6] rfl)

def f_Study_nextPlace (K : zK) (l0 : Int) (l1 : Int) (l2 : Int) (F : zF) (B : zB) : zO := f_Study_nextPlace_7 K K.1 0 (-1) l0 l1 l2 F B
set_option maxHeartbeats 4000000 in
set_option maxRecDepth 100000 in
theorem c_Study_nextPlace {l : Launch} {D : va_G} {ca : Nat → ClassId} {ad : Nat → Int → Nat → Nat} {L : List Nat} {aS vS : Nat → Nat} {sz : Nat} {K : zK}  {l0 : Int} {l1 : Int} {l2 : Int} {F F9 : zF} {B B9 : zB} {r : Int} (hf : f_Study_nextPlace K l0 l1 l2 F B = some (r, F9, B9)) : Met l ({ cls := "StaveHouse$Study", name := "nextPlace", desc := "(LStaveHouse$Piece;I)J" } : Jvm.MethodName) (Cond.code ({ cls := "StaveHouse$Study", name := "nextPlace", desc := "(LStaveHouse$Piece;I)J" } : Jvm.MethodName) prog_11_method_4_code 8 (Option.some Jvm.ClassFile.FieldType.long) :: wAll) ({ frames := 0, cells := 0, slots := 0, locals := 0 } : Room) (va_Pc [.ref (ad 9 l0 0), .ref (ad 6 l1 0), .int (iI l2)] (zPre D ca ad lnC K.2 L aS vS F B sz)) (Q_Study_nextPlace K D ca ad L r F9 B9 (zA L sz)) 0 0 (zA L sz) := by
  refine zMet (Qc := Q_Study_nextPlace K D ca ad L r F9 B9) (lv := [(0, .ref (ad 9 l0 0)), (1, .ref (ad 6 l1 0)), (2, .int (iI l2))]) (by decide) (Nat.le_of_ble_eq_true rfl) rfl (fun A p e s m below meth c ls X hZ hS hl => ?_)
  obtain ⟨hx, hb, hr, hml, hown, hts, hlk, hK, hA, hL, hX⟩ := id X
  replace hf : (f_Study_nextPlace_7 K K.1 0 (-1) l0 l1 l2 F B) = some (r, F9, B9) := hf
  refine lv_ldc2 hx hb hown (hts _ k_6_8) (D_20 W_prog_11_method_4_code_0 0 rfl rfl rfl) ?_
  refine W.eq (g2 := F0 m 3 ls [.long (lI (-1))]) rfl ?_
  refine lv_lstore_n (lv' := [(3, .long (lI (-1))), (0, .ref (ad 9 l0 0)), (1, .ref (ad 6 l1 0)), (2, .int (iI l2))]) hx hb (D_66 W_prog_11_method_4_code_0 3 rfl rfl) rfl hl (by decide) rfl (fun ls hl => ?_)
  refine lv_iconst (v := iI 0) hx hb (D_3 W_prog_11_method_4_code_0 4 rfl rfl) rfl ?_
  refine lv_istore (lv' := [(5, .int (iI 0)), (3, .long (lI (-1))), (0, .ref (ad 9 l0 0)), (1, .ref (ad 6 l1 0)), (2, .int (iI l2))]) hx hb (D_54 W_prog_11_method_4_code_0 5 rfl rfl) hl (by decide) rfl (fun ls hl => ?_)
  exact b_Study_nextPlace_7 X hf hZ hS (lv_sub hl [0, 1, 2, 3, 4] rfl)

abbrev Q_Study_eventOf (K : zK) (D : va_G) (ca : Nat → ClassId) (ad : Nat → Int → Nat → Nat) (L : List Nat) (r : Int) (F : zF) (B : zB) (A : Nat → Prop) : Array Value → State → Outcome → State → Prop := va_Qq (S := Unit) (fun p _ => p = zrf ad 1 r) (fun _ => zPo D ca ad lnC K.2 L F B A) A
def f_Study_eventOf_45 (K : zK) (s0 : Int) (F : zF) (B : zB) : zO := some (s0, F, B)
set_option maxHeartbeats 4000000 in
set_option maxRecDepth 100000 in
theorem b_Study_eventOf_45 {D : va_G} {ca : Nat → ClassId} {ad : Nat → Int → Nat → Nat} {L : List Nat} {aS vS : Nat → Nat} {A : Nat → Prop} {p : Program} {l : Launch} {e : Env} {s : State} {m : MethodId} {args : Array Value} {below : List Frame} {meth : Method} {c : Code} {K : zK} {r : Int} {F9 : zF} {B9 : zB} (X : zX D ca L aS vS A p s m args meth c prog_11_method_5_code 5 (Option.some (Jvm.ClassFile.FieldType.object "StaveHouse$Event")) "StaveHouse$Study") {s0 : Int} {F : zF} {B : zB} {H : Heap} {locs : List Loc} {ls : Array Slot} (hf : f_Study_eventOf_45 K s0 F B = some (r, F9, B9)) (hZ : zH D ca ad lnC K.2 L F B A H) (hS : va_S A s.heap H locs) (hl : lv_has ls 5 []) : W p l e ({ frames := 0, cells := 0, slots := 0, locals := 0 } : Room) s m args below meth c H locs 0 0 (MQ below (Q_Study_eventOf K D ca ad L r F9 B9 A) args s 0 0 A) (F0 m 45 ls [va_rf (zrf ad 1 s0)]) := by
  obtain ⟨hx, hb, hr, hml, hown, hts, hlk, hK, hA, hL, hX⟩ := id X
  replace hf : (some (s0, F, B)) = some (r, F9, B9) := hf
  cases hf
  exact W.aret hx hb hr (Or.inl ⟨_, rfl⟩) (va_rf_or _) (fun t ht hW => ⟨⟨_, (), rfl, rfl, by rw [ht]; exact hZ, va_K.moved hW.alike hK⟩, hS.F ht⟩) hS.2.2 (D_176 W_prog_11_method_5_code_32 13 rfl rfl) hlk

def f_Study_eventOf_29 (K : zK)  (F : zF) (B : zB) : zO := f_Study_eventOf_45 K (-1) F B
set_option maxHeartbeats 4000000 in
set_option maxRecDepth 100000 in
theorem b_Study_eventOf_29 {D : va_G} {ca : Nat → ClassId} {ad : Nat → Int → Nat → Nat} {L : List Nat} {aS vS : Nat → Nat} {A : Nat → Prop} {p : Program} {l : Launch} {e : Env} {s : State} {m : MethodId} {args : Array Value} {below : List Frame} {meth : Method} {c : Code} {K : zK} {r : Int} {F9 : zF} {B9 : zB} (X : zX D ca L aS vS A p s m args meth c prog_11_method_5_code 5 (Option.some (Jvm.ClassFile.FieldType.object "StaveHouse$Event")) "StaveHouse$Study")  {F : zF} {B : zB} {H : Heap} {locs : List Loc} {ls : Array Slot} (hf : f_Study_eventOf_29 K  F B = some (r, F9, B9)) (hZ : zH D ca ad lnC K.2 L F B A H) (hS : va_S A s.heap H locs) (hl : lv_has ls 5 []) : W p l e ({ frames := 0, cells := 0, slots := 0, locals := 0 } : Room) s m args below meth c H locs 0 0 (MQ below (Q_Study_eventOf K D ca ad L r F9 B9 A) args s 0 0 A) (F0 m 29 ls []) := by
  obtain ⟨hx, hb, hr, hml, hown, hts, hlk, hK, hA, hL, hX⟩ := id X
  replace hf : (f_Study_eventOf_45 K (-1) F B) = some (r, F9, B9) := hf
  refine lv_null hx hb (D_1 W_prog_11_method_5_code_0 29 rfl rfl) ?_
  refine W.eq (g2 := F0 m 30 ls [va_rf (zrf ad 1 (-1))]) rfl ?_
  refine lv_goto (tgt := 45) hx hb (D_167 W_prog_11_method_5_code_0 30 rfl rfl rfl) (by decide) ?_
  exact b_Study_eventOf_45 X hf hZ hS (lv_sub hl [] rfl)

def f_Study_eventOf (K : zK) (l0 : Int) (l1 : Int) (l2 : Int) (l3 : Int) (F : zF) (B : zB) : zO := if 0 ≤ l0 ∧ l0 < K.2 9 then if 0 ≤ l2 ∧ l2 < 4 then if 0 ≤ l3 ∧ l3 < 800 then if r32 (B 9 l0 (280 + l2.toNat) l3) then (if (B 9 l0 (280 + l2.toNat) l3) < 0 then f_Study_eventOf_29 K F B else if 0 ≤ l1 ∧ l1 < K.2 6 then if 0 ≤ (B 6 l1 0 l2) ∧ (B 6 l1 0 l2) < K.2 4 then if r32 (F 4 (B 6 l1 0 l2) 6) then (if (B 9 l0 (280 + l2.toNat) l3) < (F 4 (B 6 l1 0 l2) 6) then if 0 ≤ (B 9 l0 (280 + l2.toNat) l3) ∧ (B 9 l0 (280 + l2.toNat) l3) < 200 then f_Study_eventOf_45 K (B 4 (B 6 l1 0 l2) 5 (B 9 l0 (280 + l2.toNat) l3)) F B else none else f_Study_eventOf_29 K F B) else none else none else none) else none else none else none else none
set_option maxHeartbeats 4000000 in
set_option maxRecDepth 100000 in
theorem c_Study_eventOf {l : Launch} {D : va_G} {ca : Nat → ClassId} {ad : Nat → Int → Nat → Nat} {L : List Nat} {aS vS : Nat → Nat} {sz : Nat} {K : zK}  {l0 : Int} {l1 : Int} {l2 : Int} {l3 : Int} {F F9 : zF} {B B9 : zB} {r : Int} (hf : f_Study_eventOf K l0 l1 l2 l3 F B = some (r, F9, B9)) : Met l ({ cls := "StaveHouse$Study", name := "eventOf", desc := "(LStaveHouse$Piece;II)LStaveHouse$Event;" } : Jvm.MethodName) (Cond.code ({ cls := "StaveHouse$Study", name := "eventOf", desc := "(LStaveHouse$Piece;II)LStaveHouse$Event;" } : Jvm.MethodName) prog_11_method_5_code 5 (Option.some (Jvm.ClassFile.FieldType.object "StaveHouse$Event")) :: wAll) ({ frames := 0, cells := 0, slots := 0, locals := 0 } : Room) (va_Pc [.ref (ad 9 l0 0), .ref (ad 6 l1 0), .int (iI l2), .int (iI l3)] (zPre D ca ad lnC K.2 L aS vS F B sz)) (Q_Study_eventOf K D ca ad L r F9 B9 (zA L sz)) 0 0 (zA L sz) := by
  refine zMet (Qc := Q_Study_eventOf K D ca ad L r F9 B9) (lv := [(0, .ref (ad 9 l0 0)), (1, .ref (ad 6 l1 0)), (2, .int (iI l2)), (3, .int (iI l3))]) (by decide) (Nat.le_of_ble_eq_true rfl) rfl (fun A p e s m below meth c ls X hZ hS hl => ?_)
  obtain ⟨hx, hb, hr, hml, hown, hts, hlk, hK, hA, hL, hX⟩ := id X
  replace hf : (if 0 ≤ l0 ∧ l0 < K.2 9 then if 0 ≤ l2 ∧ l2 < 4 then if 0 ≤ l3 ∧ l3 < 800 then if r32 (B 9 l0 (280 + l2.toNat) l3) then (if (B 9 l0 (280 + l2.toNat) l3) < 0 then f_Study_eventOf_29 K F B else if 0 ≤ l1 ∧ l1 < K.2 6 then if 0 ≤ (B 6 l1 0 l2) ∧ (B 6 l1 0 l2) < K.2 4 then if r32 (F 4 (B 6 l1 0 l2) 6) then (if (B 9 l0 (280 + l2.toNat) l3) < (F 4 (B 6 l1 0 l2) 6) then if 0 ≤ (B 9 l0 (280 + l2.toNat) l3) ∧ (B 9 l0 (280 + l2.toNat) l3) < 200 then f_Study_eventOf_45 K (B 4 (B 6 l1 0 l2) 5 (B 9 l0 (280 + l2.toNat) l3)) F B else none else f_Study_eventOf_29 K F B) else none else none else none) else none else none else none else none) = some (r, F9, B9) := hf
  refine lv_aload_n hx hb (D_42 W_prog_11_method_5_code_0 0 rfl rfl) rfl (lv_at hl 0 rfl) ?_
  obtain ⟨g1, hf⟩ := gif hf
  refine zget (ci := 9) (C := RX9) (T := TX9) (v := .ref (ad 9 l0 (4 + 1))) (k := 4) hx hb hts inW_9 hown hK hZ g1.1 g1.2 rfl (by decide) k_5_205 rfl (D_180 W_prog_11_method_5_code_0 1 rfl rfl rfl) ?_
  refine lv_iload_n hx hb (D_28 W_prog_11_method_5_code_0 4 rfl rfl) rfl (lv_at hl 2 rfl) ?_
  obtain ⟨g2, hf⟩ := gif hf
  refine zaldQ (t := 0) (ci := 9) (k := 4) hx hb hK rfl hZ g1.1 g1.2 rfl (Nat.le_of_ble_eq_true rfl) g2.1 g2.2 (D_50 W_prog_11_method_5_code_0 5 rfl rfl) ?_
  refine W.eq (g2 := F0 m 6 ls [.ref (ad 9 l0 (280 + l2.toNat + 1))]) rfl ?_
  refine lv_iload_n hx hb (D_29 W_prog_11_method_5_code_0 6 rfl rfl) rfl (lv_at hl 3 rfl) ?_
  obtain ⟨g3, hf⟩ := gif hf
  refine zald (ci := 9) (k := (280 + l2.toNat)) hx hb hK rfl hZ g1.1 g1.2 (zkq (c := 9) (b := 280) (n := 4) (t := 0) (by decide) g2.1 g2.2) (lnq_le (c := 9) (b := 280) (n := 4) (m := 800) (by decide) (by decide) (by decide) g2.1 g2.2) g3.1 (lnq_lt (c := 9) (b := 280) (n := 4) (m := 800) (by decide) (by decide) g2.1 g2.2 g3.2) (D_46 W_prog_11_method_5_code_0 7 rfl rfl) ?_
  refine lv_istore (lv' := [(4, .int (iI (B 9 l0 (280 + l2.toNat) l3))), (0, .ref (ad 9 l0 0)), (1, .ref (ad 6 l1 0)), (2, .int (iI l2)), (3, .int (iI l3))]) hx hb (D_54 W_prog_11_method_5_code_0 8 rfl rfl) hl (by decide) rfl (fun ls hl => ?_)
  refine lv_iload hx hb (D_21 W_prog_11_method_5_code_0 10 rfl rfl) (lv_at hl 0 rfl) ?_
  obtain ⟨g4, hf⟩ := gif hf
  refine z0lt (tgt := 29) hx hb g4 (D_155 W_prog_11_method_5_code_0 12 rfl rfl rfl) (by decide) (fun h5 => ?_) (fun h5 => ?_)
  · replace hf := gpos hf h5
    exact b_Study_eventOf_29 X hf hZ hS (lv_sub hl [] rfl)
  · replace hf := gneg hf h5
    refine lv_iload hx hb (D_21 W_prog_11_method_5_code_0 15 rfl rfl) (lv_at hl 0 rfl) ?_
    refine lv_aload_n hx hb (D_43 W_prog_11_method_5_code_0 17 rfl rfl) rfl (lv_at hl 2 rfl) ?_
    obtain ⟨g6, hf⟩ := gif hf
    refine zget (ci := 6) (C := RX6) (T := TX6) (v := .ref (ad 6 l1 (0 + 1))) (k := 0) hx hb hts inW_6 hown hK hZ g6.1 g6.2 rfl (by decide) k_2_187 rfl (D_180 W_prog_11_method_5_code_0 18 rfl rfl rfl) ?_
    refine lv_iload_n hx hb (D_28 W_prog_11_method_5_code_0 21 rfl rfl) rfl (lv_at hl 3 rfl) ?_
    refine zaldR (t := 4) (x := 6) (ci := 6) (k := 0) hx hb hK rfl rfl hZ g6.1 g6.2 rfl (Nat.le_of_ble_eq_true rfl) g2.1 g2.2 (D_50 W_prog_11_method_5_code_0 22 rfl rfl) ?_
    obtain ⟨g7, hf⟩ := gif hf
    refine zunrf g7.1 ?_
    refine zget (ci := 4) (C := RX4) (T := TX4) (v := .int (iI (F 4 (B 6 l1 0 l2) 6))) (k := 6) hx hb hts inW_4 hown hK hZ g7.1 g7.2 rfl (by decide) k_4_137 rfl (D_180 W_prog_11_method_5_code_0 23 rfl rfl rfl) ?_
    obtain ⟨g8, hf⟩ := gif hf
    refine zlt (tgt := 33) hx hb g4 g8 (D_161 W_prog_11_method_5_code_0 26 rfl rfl rfl) (by decide) (fun h9 => ?_) (fun h9 => ?_)
    · replace hf := gpos hf h9
      refine lv_aload_n hx hb (D_43 W_prog_11_method_5_code_32 1 rfl rfl) rfl (lv_at hl 2 rfl) ?_
      refine zget (ci := 6) (C := RX6) (T := TX6) (v := .ref (ad 6 l1 (0 + 1))) (k := 0) hx hb hts inW_6 hown hK hZ g6.1 g6.2 rfl (by decide) k_2_187 rfl (D_180 W_prog_11_method_5_code_32 2 rfl rfl rfl) ?_
      refine lv_iload_n hx hb (D_28 W_prog_11_method_5_code_32 5 rfl rfl) rfl (lv_at hl 3 rfl) ?_
      refine zaldR (t := 4) (x := 6) (ci := 6) (k := 0) hx hb hK rfl rfl hZ g6.1 g6.2 rfl (Nat.le_of_ble_eq_true rfl) g2.1 g2.2 (D_50 W_prog_11_method_5_code_32 6 rfl rfl) ?_
      refine zunrf g7.1 ?_
      refine zget (ci := 4) (C := RX4) (T := TX4) (v := .ref (ad 4 (B 6 l1 0 l2) (5 + 1))) (k := 5) hx hb hts inW_4 hown hK hZ g7.1 g7.2 rfl (by decide) k_4_132 rfl (D_180 W_prog_11_method_5_code_32 7 rfl rfl rfl) ?_
      refine lv_iload hx hb (D_21 W_prog_11_method_5_code_32 10 rfl rfl) (lv_at hl 0 rfl) ?_
      obtain ⟨g10, hf⟩ := gif hf
      refine zaldR (t := 1) (x := 7) (ci := 4) (k := 5) hx hb hK rfl rfl hZ g7.1 g7.2 rfl (Nat.le_of_ble_eq_true rfl) g10.1 g10.2 (D_50 W_prog_11_method_5_code_32 12 rfl rfl) ?_
      exact b_Study_eventOf_45 X hf hZ hS (lv_sub hl [] rfl)
    · replace hf := gneg hf h9
      exact b_Study_eventOf_29 X hf hZ hS (lv_sub hl [] rfl)

abbrev Q_Study_consonance (K : zK) (D : va_G) (ca : Nat → ClassId) (ad : Nat → Int → Nat → Nat) (L : List Nat) (r : Int) (F : zF) (B : zB) (A : Nat → Prop) : Array Value → State → Outcome → State → Prop := va_Qi (S := Unit) (fun p _ => p = iI r) (fun _ => zPo D ca ad lnC K.2 L F B A) A
def f_Study_consonance_74 (K : zK) (s0 : Int) (F : zF) (B : zB) : zO := some (s0, F, B)
set_option maxHeartbeats 4000000 in
set_option maxRecDepth 100000 in
theorem b_Study_consonance_74 {D : va_G} {ca : Nat → ClassId} {ad : Nat → Int → Nat → Nat} {L : List Nat} {aS vS : Nat → Nat} {A : Nat → Prop} {p : Program} {l : Launch} {e : Env} {s : State} {m : MethodId} {args : Array Value} {below : List Frame} {meth : Method} {c : Code} {K : zK} {r : Int} {F9 : zF} {B9 : zB} (X : zX D ca L aS vS A p s m args meth c prog_11_method_10_code 7 (Option.some Jvm.ClassFile.FieldType.int) "StaveHouse$Study") {s0 : Int} {F : zF} {B : zB} {H : Heap} {locs : List Loc} {ls : Array Slot} (hf : f_Study_consonance_74 K s0 F B = some (r, F9, B9)) (hZ : zH D ca ad lnC K.2 L F B A H) (hS : va_S A s.heap H locs) (hl : lv_has ls 7 []) : W p l e ({ frames := 1, cells := 0, slots := 0, locals := 22 } : Room) s m args below meth c H locs 0 0 (MQ below (Q_Study_consonance K D ca ad L r F9 B9 A) args s 0 0 A) (F0 m 74 ls [.int (iI s0)]) := by
  obtain ⟨hx, hb, hr, hml, hown, hts, hlk, hK, hA, hL, hX⟩ := id X
  replace hf : (some (s0, F, B)) = some (r, F9, B9) := hf
  cases hf
  exact W.iret hx hb hr (fun t ht hW => ⟨⟨_, (), rfl, rfl, by rw [ht]; exact hZ, va_K.moved hW.alike hK⟩, hS.F ht⟩) hS.2.2 (D_172 W_prog_11_method_10_code_64 10 rfl rfl) hlk

def f_Study_consonance_73 (K : zK)  (F : zF) (B : zB) : zO := f_Study_consonance_74 K 0 F B
set_option maxHeartbeats 4000000 in
set_option maxRecDepth 100000 in
theorem b_Study_consonance_73 {D : va_G} {ca : Nat → ClassId} {ad : Nat → Int → Nat → Nat} {L : List Nat} {aS vS : Nat → Nat} {A : Nat → Prop} {p : Program} {l : Launch} {e : Env} {s : State} {m : MethodId} {args : Array Value} {below : List Frame} {meth : Method} {c : Code} {K : zK} {r : Int} {F9 : zF} {B9 : zB} (X : zX D ca L aS vS A p s m args meth c prog_11_method_10_code 7 (Option.some Jvm.ClassFile.FieldType.int) "StaveHouse$Study")  {F : zF} {B : zB} {H : Heap} {locs : List Loc} {ls : Array Slot} (hf : f_Study_consonance_73 K  F B = some (r, F9, B9)) (hZ : zH D ca ad lnC K.2 L F B A H) (hS : va_S A s.heap H locs) (hl : lv_has ls 7 []) : W p l e ({ frames := 1, cells := 0, slots := 0, locals := 22 } : Room) s m args below meth c H locs 0 0 (MQ below (Q_Study_consonance K D ca ad L r F9 B9 A) args s 0 0 A) (F0 m 73 ls []) := by
  obtain ⟨hx, hb, hr, hml, hown, hts, hlk, hK, hA, hL, hX⟩ := id X
  replace hf : (f_Study_consonance_74 K 0 F B) = some (r, F9, B9) := hf
  refine lv_iconst (v := iI 0) hx hb (D_3 W_prog_11_method_10_code_64 9 rfl rfl) rfl ?_
  exact b_Study_consonance_74 X hf hZ hS (lv_sub hl [] rfl)

def f_Study_consonance_56 (K : zK) (l6 : Int) (l5 : Int) (F : zF) (B : zB) : zO := if r32 l5 then (if l5 = 4 then if r32 l6 then (if l6 = 7 then f_Study_consonance_74 K 2 F B else f_Study_consonance_73 K F B) else none else f_Study_consonance_73 K F B) else none
set_option maxHeartbeats 4000000 in
set_option maxRecDepth 100000 in
theorem b_Study_consonance_56 {D : va_G} {ca : Nat → ClassId} {ad : Nat → Int → Nat → Nat} {L : List Nat} {aS vS : Nat → Nat} {A : Nat → Prop} {p : Program} {l : Launch} {e : Env} {s : State} {m : MethodId} {args : Array Value} {below : List Frame} {meth : Method} {c : Code} {K : zK} {r : Int} {F9 : zF} {B9 : zB} (X : zX D ca L aS vS A p s m args meth c prog_11_method_10_code 7 (Option.some Jvm.ClassFile.FieldType.int) "StaveHouse$Study") {l6 : Int} {l5 : Int} {F : zF} {B : zB} {H : Heap} {locs : List Loc} {ls : Array Slot} (hf : f_Study_consonance_56 K l6 l5 F B = some (r, F9, B9)) (hZ : zH D ca ad lnC K.2 L F B A H) (hS : va_S A s.heap H locs) (hl : lv_has ls 7 [(6, .int (iI l6)), (5, .int (iI l5))]) : W p l e ({ frames := 1, cells := 0, slots := 0, locals := 22 } : Room) s m args below meth c H locs 0 0 (MQ below (Q_Study_consonance K D ca ad L r F9 B9 A) args s 0 0 A) (F0 m 56 ls []) := by
  obtain ⟨hx, hb, hr, hml, hown, hts, hlk, hK, hA, hL, hX⟩ := id X
  replace hf : (if r32 l5 then (if l5 = 4 then if r32 l6 then (if l6 = 7 then f_Study_consonance_74 K 2 F B else f_Study_consonance_73 K F B) else none else f_Study_consonance_73 K F B) else none) = some (r, F9, B9) := hf
  refine lv_iload hx hb (D_21 W_prog_11_method_10_code_32 24 rfl rfl) (lv_at hl 1 rfl) ?_
  refine lv_iconst (v := iI 4) hx hb (D_7 W_prog_11_method_10_code_32 26 rfl rfl) rfl ?_
  obtain ⟨g12, hf⟩ := gif hf
  refine zne (tgt := 73) hx hb g12 (by decide) (D_160 W_prog_11_method_10_code_32 27 rfl rfl rfl) (by decide) (fun h13 => ?_) (fun h13 => ?_)
  · replace hf := gneg hf h13
    exact b_Study_consonance_73 X hf hZ hS (lv_sub hl [] rfl)
  · replace hf := gpos hf h13
    refine lv_iload hx hb (D_21 W_prog_11_method_10_code_32 30 rfl rfl) (lv_at hl 0 rfl) ?_
    refine lv_bipush (v := iI 7) hx hb (D_16 W_prog_11_method_10_code_64 0 rfl rfl rfl) (by decide) ?_
    obtain ⟨g14, hf⟩ := gif hf
    refine zne (tgt := 73) hx hb g14 (by decide) (D_160 W_prog_11_method_10_code_64 2 rfl rfl rfl) (by decide) (fun h15 => ?_) (fun h15 => ?_)
    · replace hf := gneg hf h15
      exact b_Study_consonance_73 X hf hZ hS (lv_sub hl [] rfl)
    · replace hf := gpos hf h15
      refine lv_iconst (v := iI 2) hx hb (D_5 W_prog_11_method_10_code_64 5 rfl rfl) rfl ?_
      refine lv_goto (tgt := 74) hx hb (D_167 W_prog_11_method_10_code_64 6 rfl rfl rfl) (by decide) ?_
      exact b_Study_consonance_74 X hf hZ hS (lv_sub hl [] rfl)

def f_Study_consonance_26 (K : zK) (l1 : Int) (l3 : Int) (s0 : Int) (F : zF) (B : zB) : zO := zbind (f_Math_floorMod K s0 7 F B) (fun r6 F6 B6 => if r32 (l1 - l3) then if r32 r6 then (if r6 = 0 then if r32 (zrm (zabs (l1 - l3)) 12) then (if (zrm (zabs (l1 - l3)) 12) = 0 then some (1, F6, B6) else f_Study_consonance_56 K (zrm (zabs (l1 - l3)) 12) r6 F6 B6) else none else f_Study_consonance_56 K (zrm (zabs (l1 - l3)) 12) r6 F6 B6) else none else none)
set_option maxHeartbeats 4000000 in
set_option maxRecDepth 100000 in
theorem b_Study_consonance_26 {D : va_G} {ca : Nat → ClassId} {ad : Nat → Int → Nat → Nat} {L : List Nat} {aS vS : Nat → Nat} {A : Nat → Prop} {p : Program} {l : Launch} {e : Env} {s : State} {m : MethodId} {args : Array Value} {below : List Frame} {meth : Method} {c : Code} {K : zK} {r : Int} {F9 : zF} {B9 : zB} (X : zX D ca L aS vS A p s m args meth c prog_11_method_10_code 7 (Option.some Jvm.ClassFile.FieldType.int) "StaveHouse$Study") {l1 : Int} {l3 : Int} {s0 : Int} {F : zF} {B : zB} {H : Heap} {locs : List Loc} {ls : Array Slot} (hf : f_Study_consonance_26 K l1 l3 s0 F B = some (r, F9, B9)) (hZ : zH D ca ad lnC K.2 L F B A H) (hS : va_S A s.heap H locs) (hl : lv_has ls 7 [(1, .int (iI l1)), (3, .int (iI l3))]) : W p l e ({ frames := 1, cells := 0, slots := 0, locals := 22 } : Room) s m args below meth c H locs 0 0 (MQ below (Q_Study_consonance K D ca ad L r F9 B9 A) args s 0 0 A) (F0 m 26 ls [.int (iI s0)]) := by
  obtain ⟨hx, hb, hr, hml, hown, hts, hlk, hK, hA, hL, hX⟩ := id X
  replace hf : (zbind (f_Math_floorMod K s0 7 F B) (fun r6 F6 B6 => if r32 (l1 - l3) then if r32 r6 then (if r6 = 0 then if r32 (zrm (zabs (l1 - l3)) 12) then (if (zrm (zabs (l1 - l3)) 12) = 0 then some (1, F6, B6) else f_Study_consonance_56 K (zrm (zabs (l1 - l3)) 12) r6 F6 B6) else none else f_Study_consonance_56 K (zrm (zabs (l1 - l3)) 12) r6 F6 B6) else none else none)) = some (r, F9, B9) := hf
  refine lv_bipush (v := iI 7) hx hb (D_16 W_prog_11_method_10_code_0 26 rfl rfl rfl) (by decide) ?_
  obtain ⟨r6, F6, B6, hc6, hf⟩ := gbind hf
  refine va_calli (va_runS (As := [.int (iI s0), .int (iI 7)]) (rest := []) ⟨hx, hb, hml, hown, hts⟩ (c_Math_floorMod (l := l) hc6) (va_cwS 2 hts (gdS k_6_38 k_4_71 k_1_3 k_4_72) rfl rfl rfl (by decide +kernel) ⟨Nat.le_of_ble_eq_true rfl, Nat.le_of_ble_eq_true rfl⟩) (zPS X hZ hS [.int (iI s0), .int (iI 7)]) rfl rfl hl.1 rfl (lv_room (Nat.le_of_ble_eq_true rfl)) (D_184 W_prog_11_method_10_code_0 28 rfl rfl rfl) ⟨Nat.le_of_ble_eq_true rfl, Nat.le_of_ble_eq_true rfl⟩) hS (fun q _ h => zAin X hS q h) (zAin X hS) (fun p6 u6 t6 H6 locs6 ht6 hv6 hw6 hB6 hz6 hk6 hS6 => ?_)
  have hZ6 := zBack X ht6 hB6
  subst hw6
  refine lv_istore (lv' := [(5, .int (iI r6)), (1, .int (iI l1)), (3, .int (iI l3))]) hx hb (D_54 W_prog_11_method_10_code_0 31 rfl rfl) hl (by decide) rfl (fun ls hl => ?_)
  refine lv_iload_n hx hb (D_27 W_prog_11_method_10_code_32 1 rfl rfl) rfl (lv_at hl 1 rfl) ?_
  refine lv_iload_n hx hb (D_29 W_prog_11_method_10_code_32 2 rfl rfl) rfl (lv_at hl 2 rfl) ?_
  refine zsub hx hb (D_100 W_prog_11_method_10_code_32 3 rfl rfl) ?_
  obtain ⟨g7, hf⟩ := gif hf
  refine va_mabs hx hb (by rw [hml]; exact hl.1.symm) hown (hts _ k_6_39) (hts _ k_4_229) (hts _ k_1_3) (hts _ k_4_230) (Nat.le_of_ble_eq_true rfl) (Nat.le_of_ble_eq_true rfl) (Nat.le_of_ble_eq_true rfl) (Nat.le_of_ble_eq_true rfl) (D_184 W_prog_11_method_10_code_32 4 rfl rfl rfl) ?_
  rw [zabs_e g7]
  refine lv_bipush (v := iI 12) hx hb (D_16 W_prog_11_method_10_code_32 7 rfl rfl rfl) (by decide) ?_
  refine zrm_r hx hb (by decide) (D_112 W_prog_11_method_10_code_32 9 rfl rfl) ?_
  refine lv_istore (lv' := [(6, .int (iI (zrm (zabs (l1 - l3)) 12))), (5, .int (iI r6)), (1, .int (iI l1)), (3, .int (iI l3))]) hx hb (D_54 W_prog_11_method_10_code_32 10 rfl rfl) hl (by decide) rfl (fun ls hl => ?_)
  refine lv_iload hx hb (D_21 W_prog_11_method_10_code_32 12 rfl rfl) (lv_at hl 1 rfl) ?_
  obtain ⟨g8, hf⟩ := gif hf
  refine z0ne (tgt := 56) hx hb g8 (D_154 W_prog_11_method_10_code_32 14 rfl rfl rfl) (by decide) (fun h9 => ?_) (fun h9 => ?_)
  · replace hf := gneg hf h9
    exact b_Study_consonance_56 X hf hZ6 hS6 (lv_sub hl [0, 1] rfl)
  · replace hf := gpos hf h9
    refine lv_iload hx hb (D_21 W_prog_11_method_10_code_32 17 rfl rfl) (lv_at hl 0 rfl) ?_
    obtain ⟨g10, hf⟩ := gif hf
    refine z0ne (tgt := 56) hx hb g10 (D_154 W_prog_11_method_10_code_32 19 rfl rfl rfl) (by decide) (fun h11 => ?_) (fun h11 => ?_)
    · replace hf := gneg hf h11
      exact b_Study_consonance_56 X hf hZ6 hS6 (lv_sub hl [0, 1] rfl)
    · replace hf := gpos hf h11
      refine lv_iconst (v := iI 1) hx hb (D_4 W_prog_11_method_10_code_32 22 rfl rfl) rfl ?_
      cases hf
      exact W.iret hx hb hr (fun t ht hW => ⟨⟨_, (), rfl, rfl, by rw [ht]; exact hZ6, va_K.moved hW.alike hK⟩, hS6.F ht⟩) hS6.2.2 (D_172 W_prog_11_method_10_code_32 23 rfl rfl) hlk

def f_Study_consonance_10 (K : zK) (l0 : Int) (l1 : Int) (l2 : Int) (l3 : Int) (s0 : Int) (F : zF) (B : zB) : zO := if r32 s0 then (if s0 = 0 then f_Study_consonance_26 K l1 l3 (l0 - l2) F B else f_Study_consonance_26 K l1 l3 (l2 - l0) F B) else none
set_option maxHeartbeats 4000000 in
set_option maxRecDepth 100000 in
theorem b_Study_consonance_10 {D : va_G} {ca : Nat → ClassId} {ad : Nat → Int → Nat → Nat} {L : List Nat} {aS vS : Nat → Nat} {A : Nat → Prop} {p : Program} {l : Launch} {e : Env} {s : State} {m : MethodId} {args : Array Value} {below : List Frame} {meth : Method} {c : Code} {K : zK} {r : Int} {F9 : zF} {B9 : zB} (X : zX D ca L aS vS A p s m args meth c prog_11_method_10_code 7 (Option.some Jvm.ClassFile.FieldType.int) "StaveHouse$Study") {l0 : Int} {l1 : Int} {l2 : Int} {l3 : Int} {s0 : Int} {F : zF} {B : zB} {H : Heap} {locs : List Loc} {ls : Array Slot} (hf : f_Study_consonance_10 K l0 l1 l2 l3 s0 F B = some (r, F9, B9)) (hZ : zH D ca ad lnC K.2 L F B A H) (hS : va_S A s.heap H locs) (hl : lv_has ls 7 [(0, .int (iI l0)), (1, .int (iI l1)), (2, .int (iI l2)), (3, .int (iI l3))]) : W p l e ({ frames := 1, cells := 0, slots := 0, locals := 22 } : Room) s m args below meth c H locs 0 0 (MQ below (Q_Study_consonance K D ca ad L r F9 B9 A) args s 0 0 A) (F0 m 10 ls [.int (iI s0)]) := by
  obtain ⟨hx, hb, hr, hml, hown, hts, hlk, hK, hA, hL, hX⟩ := id X
  replace hf : (if r32 s0 then (if s0 = 0 then f_Study_consonance_26 K l1 l3 (l0 - l2) F B else f_Study_consonance_26 K l1 l3 (l2 - l0) F B) else none) = some (r, F9, B9) := hf
  refine lv_istore (lv' := [(4, .int (iI s0)), (0, .int (iI l0)), (1, .int (iI l1)), (2, .int (iI l2)), (3, .int (iI l3))]) hx hb (D_54 W_prog_11_method_10_code_0 10 rfl rfl) hl (by decide) rfl (fun ls hl => ?_)
  refine lv_iload hx hb (D_21 W_prog_11_method_10_code_0 12 rfl rfl) (lv_at hl 0 rfl) ?_
  obtain ⟨g4, hf⟩ := gif hf
  refine z0eq (tgt := 23) hx hb g4 (D_153 W_prog_11_method_10_code_0 14 rfl rfl rfl) (by decide) (fun h5 => ?_) (fun h5 => ?_)
  · replace hf := gpos hf h5
    refine lv_iload_n hx hb (D_26 W_prog_11_method_10_code_0 23 rfl rfl) rfl (lv_at hl 1 rfl) ?_
    refine lv_iload_n hx hb (D_28 W_prog_11_method_10_code_0 24 rfl rfl) rfl (lv_at hl 3 rfl) ?_
    refine zsub hx hb (D_100 W_prog_11_method_10_code_0 25 rfl rfl) ?_
    exact b_Study_consonance_26 X hf hZ hS (lv_sub hl [2, 4] rfl)
  · replace hf := gneg hf h5
    refine lv_iload_n hx hb (D_28 W_prog_11_method_10_code_0 17 rfl rfl) rfl (lv_at hl 3 rfl) ?_
    refine lv_iload_n hx hb (D_26 W_prog_11_method_10_code_0 18 rfl rfl) rfl (lv_at hl 1 rfl) ?_
    refine zsub hx hb (D_100 W_prog_11_method_10_code_0 19 rfl rfl) ?_
    refine lv_goto (tgt := 26) hx hb (D_167 W_prog_11_method_10_code_0 20 rfl rfl rfl) (by decide) ?_
    exact b_Study_consonance_26 X hf hZ hS (lv_sub hl [2, 4] rfl)

def f_Study_consonance (K : zK) (l0 : Int) (l1 : Int) (l2 : Int) (l3 : Int) (F : zF) (B : zB) : zO := if r32 l3 then if r32 l1 then (if l3 ≤ l1 then f_Study_consonance_10 K l0 l1 l2 l3 0 F B else f_Study_consonance_10 K l0 l1 l2 l3 1 F B) else none else none
set_option maxHeartbeats 4000000 in
set_option maxRecDepth 100000 in
theorem c_Study_consonance {l : Launch} {D : va_G} {ca : Nat → ClassId} {ad : Nat → Int → Nat → Nat} {L : List Nat} {aS vS : Nat → Nat} {sz : Nat} {K : zK}  {l0 : Int} {l1 : Int} {l2 : Int} {l3 : Int} {F F9 : zF} {B B9 : zB} {r : Int} (hf : f_Study_consonance K l0 l1 l2 l3 F B = some (r, F9, B9)) : Met l ({ cls := "StaveHouse$Study", name := "consonance", desc := "(IIII)I" } : Jvm.MethodName) (Cond.code ({ cls := "StaveHouse$Study", name := "consonance", desc := "(IIII)I" } : Jvm.MethodName) prog_11_method_10_code 7 (Option.some Jvm.ClassFile.FieldType.int) :: wAll) ({ frames := 1, cells := 0, slots := 0, locals := 22 } : Room) (va_Pc [.int (iI l0), .int (iI l1), .int (iI l2), .int (iI l3)] (zPre D ca ad lnC K.2 L aS vS F B sz)) (Q_Study_consonance K D ca ad L r F9 B9 (zA L sz)) 0 0 (zA L sz) := by
  refine zMet (Qc := Q_Study_consonance K D ca ad L r F9 B9) (lv := [(0, .int (iI l0)), (1, .int (iI l1)), (2, .int (iI l2)), (3, .int (iI l3))]) (by decide) (Nat.le_of_ble_eq_true rfl) rfl (fun A p e s m below meth c ls X hZ hS hl => ?_)
  obtain ⟨hx, hb, hr, hml, hown, hts, hlk, hK, hA, hL, hX⟩ := id X
  replace hf : (if r32 l3 then if r32 l1 then (if l3 ≤ l1 then f_Study_consonance_10 K l0 l1 l2 l3 0 F B else f_Study_consonance_10 K l0 l1 l2 l3 1 F B) else none else none) = some (r, F9, B9) := hf
  refine lv_iload_n hx hb (D_29 W_prog_11_method_10_code_0 0 rfl rfl) rfl (lv_at hl 3 rfl) ?_
  refine lv_iload_n hx hb (D_27 W_prog_11_method_10_code_0 1 rfl rfl) rfl (lv_at hl 1 rfl) ?_
  obtain ⟨g1, hf⟩ := gif hf
  obtain ⟨g2, hf⟩ := gif hf
  refine zle (tgt := 9) hx hb g1 g2 (D_164 W_prog_11_method_10_code_0 2 rfl rfl rfl) (by decide) (fun h3 => ?_) (fun h3 => ?_)
  · replace hf := gpos hf h3
    refine lv_iconst (v := iI 0) hx hb (D_3 W_prog_11_method_10_code_0 9 rfl rfl) rfl ?_
    exact b_Study_consonance_10 X hf hZ hS (lv_sub hl [0, 1, 2, 3] rfl)
  · replace hf := gneg hf h3
    refine lv_iconst (v := iI 1) hx hb (D_4 W_prog_11_method_10_code_0 5 rfl rfl) rfl ?_
    refine lv_goto (tgt := 10) hx hb (D_167 W_prog_11_method_10_code_0 6 rfl rfl rfl) (by decide) ?_
    exact b_Study_consonance_10 X hf hZ hS (lv_sub hl [0, 1, 2, 3] rfl)

abbrev Q_Study_addFault (K : zK) (D : va_G) (ca : Nat → ClassId) (ad : Nat → Int → Nat → Nat) (L : List Nat) (r : Int) (F : zF) (B : zB) (A : Nat → Prop) : Array Value → State → Outcome → State → Prop := va_Qv (S := Unit) (fun _ => True) (fun _ => zPo D ca ad lnC K.2 L F B A) A
def f_Study_addFault (K : zK) (l0 : Int) (l1 : Int) (l2 : Int) (l3 : Int) (l4 : Int) (F : zF) (B : zB) : zO := if 0 ≤ l0 ∧ l0 < K.2 9 then if r32 (F 9 l0 2) then (if (F 9 l0 2) < 300 then if 0 ≤ (F 9 l0 2) ∧ (F 9 l0 2) < 300 then some (0, (zup3 F 9 l0 2 ((F 9 l0 2) + 1)), (zup4 (zup4 (zup4 (zup4 B 9 l0 260 (F 9 l0 2) l1) 9 l0 261 (F 9 l0 2) l2) 9 l0 262 (F 9 l0 2) l3) 9 l0 263 (F 9 l0 2) l4)) else none else some (0, F, B)) else none else none
set_option maxHeartbeats 4000000 in
set_option maxRecDepth 100000 in
theorem c_Study_addFault {l : Launch} {D : va_G} {ca : Nat → ClassId} {ad : Nat → Int → Nat → Nat} {L : List Nat} {aS vS : Nat → Nat} {sz : Nat} {K : zK}  {l0 : Int} {l1 : Int} {l2 : Int} {l3 : Int} {l4 : Int} {F F9 : zF} {B B9 : zB} {r : Int} (hf : f_Study_addFault K l0 l1 l2 l3 l4 F B = some (r, F9, B9)) : Met l ({ cls := "StaveHouse$Study", name := "addFault", desc := "(IIII)V" } : Jvm.MethodName) (Cond.code ({ cls := "StaveHouse$Study", name := "addFault", desc := "(IIII)V" } : Jvm.MethodName) prog_11_method_8_code 5 (Option.none : Option Jvm.ClassFile.FieldType) :: wAll) ({ frames := 0, cells := 0, slots := 0, locals := 0 } : Room) (va_Pc [.ref (ad 9 l0 0), .int (iI l1), .int (iI l2), .int (iI l3), .int (iI l4)] (zPre D ca ad lnC K.2 L aS vS F B sz)) (Q_Study_addFault K D ca ad L r F9 B9 (zA L sz)) 0 0 (zA L sz) := by
  refine zMet (Qc := Q_Study_addFault K D ca ad L r F9 B9) (lv := [(0, .ref (ad 9 l0 0)), (1, .int (iI l1)), (2, .int (iI l2)), (3, .int (iI l3)), (4, .int (iI l4))]) (by decide) (Nat.le_of_ble_eq_true rfl) rfl (fun A p e s m below meth c ls X hZ hS hl => ?_)
  obtain ⟨hx, hb, hr, hml, hown, hts, hlk, hK, hA, hL, hX⟩ := id X
  replace hf : (if 0 ≤ l0 ∧ l0 < K.2 9 then if r32 (F 9 l0 2) then (if (F 9 l0 2) < 300 then if 0 ≤ (F 9 l0 2) ∧ (F 9 l0 2) < 300 then some (0, (zup3 F 9 l0 2 ((F 9 l0 2) + 1)), (zup4 (zup4 (zup4 (zup4 B 9 l0 260 (F 9 l0 2) l1) 9 l0 261 (F 9 l0 2) l2) 9 l0 262 (F 9 l0 2) l3) 9 l0 263 (F 9 l0 2) l4)) else none else some (0, F, B)) else none else none) = some (r, F9, B9) := hf
  refine lv_aload_n hx hb (D_42 W_prog_11_method_8_code_0 0 rfl rfl) rfl (lv_at hl 0 rfl) ?_
  obtain ⟨g1, hf⟩ := gif hf
  refine zget (ci := 9) (C := RX9) (T := TX9) (v := .int (iI (F 9 l0 2))) (k := 2) hx hb hts inW_9 hown hK hZ g1.1 g1.2 rfl (by decide) k_5_201 rfl (D_180 W_prog_11_method_8_code_0 1 rfl rfl rfl) ?_
  refine lv_sipush (v := iI 300) hx hb (D_17 W_prog_11_method_8_code_0 4 rfl rfl rfl) (by decide) ?_
  obtain ⟨g2, hf⟩ := gif hf
  refine zlt (tgt := 11) hx hb g2 (by decide) (D_161 W_prog_11_method_8_code_0 7 rfl rfl rfl) (by decide) (fun h3 => ?_) (fun h3 => ?_)
  · replace hf := gpos hf h3
    refine lv_aload_n hx hb (D_42 W_prog_11_method_8_code_0 11 rfl rfl) rfl (lv_at hl 0 rfl) ?_
    refine zget (ci := 9) (C := RX9) (T := TX9) (v := .ref (ad 9 l0 (3 + 1))) (k := 3) hx hb hts inW_9 hown hK hZ g1.1 g1.2 rfl (by decide) k_5_203 rfl (D_180 W_prog_11_method_8_code_0 12 rfl rfl rfl) ?_
    refine lv_iconst (v := iI 0) hx hb (D_3 W_prog_11_method_8_code_0 15 rfl rfl) rfl ?_
    refine zaldQ (t := 0) (ci := 9) (k := 3) hx hb hK rfl hZ g1.1 g1.2 rfl (Nat.le_of_ble_eq_true rfl) (by decide) (by decide) (D_50 W_prog_11_method_8_code_0 16 rfl rfl) ?_
    refine W.eq (g2 := F0 m 17 ls [.ref (ad 9 l0 (260 + 1))]) rfl ?_
    refine lv_aload_n hx hb (D_42 W_prog_11_method_8_code_0 17 rfl rfl) rfl (lv_at hl 0 rfl) ?_
    refine zget (ci := 9) (C := RX9) (T := TX9) (v := .int (iI (F 9 l0 2))) (k := 2) hx hb hts inW_9 hown hK hZ g1.1 g1.2 rfl (by decide) k_5_201 rfl (D_180 W_prog_11_method_8_code_0 18 rfl rfl rfl) ?_
    refine lv_iload_n hx hb (D_27 W_prog_11_method_8_code_0 21 rfl rfl) rfl (lv_at hl 1 rfl) ?_
    obtain ⟨g4, hf⟩ := gif hf
    refine zast (ci := 9) (k := 260) hx hb hK rfl hZ hS g1.1 g1.2 rfl (Nat.le_of_ble_eq_true rfl) g4.1 g4.2 (D_79 W_prog_11_method_8_code_0 22 rfl rfl) (fun H5 locs5 hZ5 hS5 => ?_)
    refine lv_aload_n hx hb (D_42 W_prog_11_method_8_code_0 23 rfl rfl) rfl (lv_at hl 0 rfl) ?_
    refine zget (ci := 9) (C := RX9) (T := TX9) (v := .ref (ad 9 l0 (3 + 1))) (k := 3) hx hb hts inW_9 hown hK hZ5 g1.1 g1.2 rfl (by decide) k_5_203 rfl (D_180 W_prog_11_method_8_code_0 24 rfl rfl rfl) ?_
    refine lv_iconst (v := iI 1) hx hb (D_4 W_prog_11_method_8_code_0 27 rfl rfl) rfl ?_
    refine zaldQ (t := 0) (ci := 9) (k := 3) hx hb hK rfl hZ5 g1.1 g1.2 rfl (Nat.le_of_ble_eq_true rfl) (by decide) (by decide) (D_50 W_prog_11_method_8_code_0 28 rfl rfl) ?_
    refine W.eq (g2 := F0 m 29 ls [.ref (ad 9 l0 (261 + 1))]) rfl ?_
    refine lv_aload_n hx hb (D_42 W_prog_11_method_8_code_0 29 rfl rfl) rfl (lv_at hl 0 rfl) ?_
    refine zget (ci := 9) (C := RX9) (T := TX9) (v := .int (iI (F 9 l0 2))) (k := 2) hx hb hts inW_9 hown hK hZ5 g1.1 g1.2 rfl (by decide) k_5_201 rfl (D_180 W_prog_11_method_8_code_0 30 rfl rfl rfl) ?_
    refine lv_iload_n hx hb (D_28 W_prog_11_method_8_code_32 1 rfl rfl) rfl (lv_at hl 2 rfl) ?_
    refine zast (ci := 9) (k := 261) hx hb hK rfl hZ5 hS5 g1.1 g1.2 rfl (Nat.le_of_ble_eq_true rfl) g4.1 g4.2 (D_79 W_prog_11_method_8_code_32 2 rfl rfl) (fun H6 locs6 hZ6 hS6 => ?_)
    refine lv_aload_n hx hb (D_42 W_prog_11_method_8_code_32 3 rfl rfl) rfl (lv_at hl 0 rfl) ?_
    refine zget (ci := 9) (C := RX9) (T := TX9) (v := .ref (ad 9 l0 (3 + 1))) (k := 3) hx hb hts inW_9 hown hK hZ6 g1.1 g1.2 rfl (by decide) k_5_203 rfl (D_180 W_prog_11_method_8_code_32 4 rfl rfl rfl) ?_
    refine lv_iconst (v := iI 2) hx hb (D_5 W_prog_11_method_8_code_32 7 rfl rfl) rfl ?_
    refine zaldQ (t := 0) (ci := 9) (k := 3) hx hb hK rfl hZ6 g1.1 g1.2 rfl (Nat.le_of_ble_eq_true rfl) (by decide) (by decide) (D_50 W_prog_11_method_8_code_32 8 rfl rfl) ?_
    refine W.eq (g2 := F0 m 41 ls [.ref (ad 9 l0 (262 + 1))]) rfl ?_
    refine lv_aload_n hx hb (D_42 W_prog_11_method_8_code_32 9 rfl rfl) rfl (lv_at hl 0 rfl) ?_
    refine zget (ci := 9) (C := RX9) (T := TX9) (v := .int (iI (F 9 l0 2))) (k := 2) hx hb hts inW_9 hown hK hZ6 g1.1 g1.2 rfl (by decide) k_5_201 rfl (D_180 W_prog_11_method_8_code_32 10 rfl rfl rfl) ?_
    refine lv_iload_n hx hb (D_29 W_prog_11_method_8_code_32 13 rfl rfl) rfl (lv_at hl 3 rfl) ?_
    refine zast (ci := 9) (k := 262) hx hb hK rfl hZ6 hS6 g1.1 g1.2 rfl (Nat.le_of_ble_eq_true rfl) g4.1 g4.2 (D_79 W_prog_11_method_8_code_32 14 rfl rfl) (fun H7 locs7 hZ7 hS7 => ?_)
    refine lv_aload_n hx hb (D_42 W_prog_11_method_8_code_32 15 rfl rfl) rfl (lv_at hl 0 rfl) ?_
    refine zget (ci := 9) (C := RX9) (T := TX9) (v := .ref (ad 9 l0 (3 + 1))) (k := 3) hx hb hts inW_9 hown hK hZ7 g1.1 g1.2 rfl (by decide) k_5_203 rfl (D_180 W_prog_11_method_8_code_32 16 rfl rfl rfl) ?_
    refine lv_iconst (v := iI 3) hx hb (D_6 W_prog_11_method_8_code_32 19 rfl rfl) rfl ?_
    refine zaldQ (t := 0) (ci := 9) (k := 3) hx hb hK rfl hZ7 g1.1 g1.2 rfl (Nat.le_of_ble_eq_true rfl) (by decide) (by decide) (D_50 W_prog_11_method_8_code_32 20 rfl rfl) ?_
    refine W.eq (g2 := F0 m 53 ls [.ref (ad 9 l0 (263 + 1))]) rfl ?_
    refine lv_aload_n hx hb (D_42 W_prog_11_method_8_code_32 21 rfl rfl) rfl (lv_at hl 0 rfl) ?_
    refine zget (ci := 9) (C := RX9) (T := TX9) (v := .int (iI (F 9 l0 2))) (k := 2) hx hb hts inW_9 hown hK hZ7 g1.1 g1.2 rfl (by decide) k_5_201 rfl (D_180 W_prog_11_method_8_code_32 22 rfl rfl rfl) ?_
    refine lv_iload hx hb (D_21 W_prog_11_method_8_code_32 25 rfl rfl) (lv_at hl 4 rfl) ?_
    refine zast (ci := 9) (k := 263) hx hb hK rfl hZ7 hS7 g1.1 g1.2 rfl (Nat.le_of_ble_eq_true rfl) g4.1 g4.2 (D_79 W_prog_11_method_8_code_32 27 rfl rfl) (fun H8 locs8 hZ8 hS8 => ?_)
    refine lv_aload_n hx hb (D_42 W_prog_11_method_8_code_32 28 rfl rfl) rfl (lv_at hl 0 rfl) ?_
    refine lv_dup hx hb (D_89 W_prog_11_method_8_code_32 29 rfl rfl) rfl ?_
    refine zget (ci := 9) (C := RX9) (T := TX9) (v := .int (iI (F 9 l0 2))) (k := 2) hx hb hts inW_9 hown hK hZ8 g1.1 g1.2 rfl (by decide) k_5_201 rfl (D_180 W_prog_11_method_8_code_32 30 rfl rfl rfl) ?_
    refine lv_iconst (v := iI 1) hx hb (D_4 W_prog_11_method_8_code_64 1 rfl rfl) rfl ?_
    refine zadd hx hb (D_96 W_prog_11_method_8_code_64 2 rfl rfl) ?_
    refine zput (ci := 9) (C := RX9) (T := TX9) (k := 2) (v := ((F 9 l0 2) + 1)) (w := .int (iI ((F 9 l0 2) + 1))) hx hb hts inW_9 tyX9 tyX9_ok nmX9 hown hK hZ8 hS8 g1.1 g1.2 rfl (by decide) k_5_201 rfl (fun G h => congrArg (fun q => Value.int (iI q)) h) rfl rfl (zno (by decide)) (D_181 W_prog_11_method_8_code_64 3 rfl rfl rfl) (fun H9 locs9 hZ9 hS9 => ?_)
    cases hf
    exact W.vret hx hb hr (fun t ht hW => ⟨⟨(), rfl, trivial, by rw [ht]; exact hZ9, va_K.moved hW.alike hK⟩, hS9.F ht⟩) hS9.2.2 (D_177 W_prog_11_method_8_code_64 6 rfl rfl) hlk
  · replace hf := gneg hf h3
    cases hf
    exact W.vret hx hb hr (fun t ht hW => ⟨⟨(), rfl, trivial, by rw [ht]; exact hZ, va_K.moved hW.alike hK⟩, hS.F ht⟩) hS.2.2 (D_177 W_prog_11_method_8_code_0 10 rfl rfl) hlk

abbrev Q_Study_isFaultOfOne (K : zK) (D : va_G) (ca : Nat → ClassId) (ad : Nat → Int → Nat → Nat) (L : List Nat) (r : Int) (F : zF) (B : zB) (A : Nat → Prop) : Array Value → State → Outcome → State → Prop := va_Qi (S := Unit) (fun p _ => p = iI r) (fun _ => zPo D ca ad lnC K.2 L F B A) A
def f_Study_isFaultOfOne_167 (K : zK) (s0 : Int) (F : zF) (B : zB) : zO := if (s0 = 0 ∨ s0 = 1) then some (s0, F, B) else none
set_option maxHeartbeats 4000000 in
set_option maxRecDepth 100000 in
theorem b_Study_isFaultOfOne_167 {D : va_G} {ca : Nat → ClassId} {ad : Nat → Int → Nat → Nat} {L : List Nat} {aS vS : Nat → Nat} {A : Nat → Prop} {p : Program} {l : Launch} {e : Env} {s : State} {m : MethodId} {args : Array Value} {below : List Frame} {meth : Method} {c : Code} {K : zK} {r : Int} {F9 : zF} {B9 : zB} (X : zX D ca L aS vS A p s m args meth c prog_11_method_11_code 7 (Option.some Jvm.ClassFile.FieldType.boolean) "StaveHouse$Study") {s0 : Int} {F : zF} {B : zB} {H : Heap} {locs : List Loc} {ls : Array Slot} (hf : f_Study_isFaultOfOne_167 K s0 F B = some (r, F9, B9)) (hZ : zH D ca ad lnC K.2 L F B A H) (hS : va_S A s.heap H locs) (hl : lv_has ls 7 []) : W p l e ({ frames := 1, cells := 0, slots := 0, locals := 22 } : Room) s m args below meth c H locs 0 0 (MQ below (Q_Study_isFaultOfOne K D ca ad L r F9 B9 A) args s 0 0 A) (F0 m 167 ls [.int (iI s0)]) := by
  obtain ⟨hx, hb, hr, hml, hown, hts, hlk, hK, hA, hL, hX⟩ := id X
  replace hf : (if (s0 = 0 ∨ s0 = 1) then some (s0, F, B) else none) = some (r, F9, B9) := hf
  obtain ⟨g29, hf⟩ := gif hf
  cases hf
  exact W.zret hx hb hr (zbool g29) (fun t ht hW => ⟨⟨_, (), rfl, rfl, by rw [ht]; exact hZ, va_K.moved hW.alike hK⟩, hS.F ht⟩) hS.2.2 (D_172 W_prog_11_method_11_code_160 7 rfl rfl) hlk

def f_Study_isFaultOfOne_162 (K : zK)  (F : zF) (B : zB) : zO := f_Study_isFaultOfOne_167 K 1 F B
set_option maxHeartbeats 4000000 in
set_option maxRecDepth 100000 in
theorem b_Study_isFaultOfOne_162 {D : va_G} {ca : Nat → ClassId} {ad : Nat → Int → Nat → Nat} {L : List Nat} {aS vS : Nat → Nat} {A : Nat → Prop} {p : Program} {l : Launch} {e : Env} {s : State} {m : MethodId} {args : Array Value} {below : List Frame} {meth : Method} {c : Code} {K : zK} {r : Int} {F9 : zF} {B9 : zB} (X : zX D ca L aS vS A p s m args meth c prog_11_method_11_code 7 (Option.some Jvm.ClassFile.FieldType.boolean) "StaveHouse$Study")  {F : zF} {B : zB} {H : Heap} {locs : List Loc} {ls : Array Slot} (hf : f_Study_isFaultOfOne_162 K  F B = some (r, F9, B9)) (hZ : zH D ca ad lnC K.2 L F B A H) (hS : va_S A s.heap H locs) (hl : lv_has ls 7 []) : W p l e ({ frames := 1, cells := 0, slots := 0, locals := 22 } : Room) s m args below meth c H locs 0 0 (MQ below (Q_Study_isFaultOfOne K D ca ad L r F9 B9 A) args s 0 0 A) (F0 m 162 ls []) := by
  obtain ⟨hx, hb, hr, hml, hown, hts, hlk, hK, hA, hL, hX⟩ := id X
  replace hf : (f_Study_isFaultOfOne_167 K 1 F B) = some (r, F9, B9) := hf
  refine lv_iconst (v := iI 1) hx hb (D_4 W_prog_11_method_11_code_160 2 rfl rfl) rfl ?_
  refine lv_goto (tgt := 167) hx hb (D_167 W_prog_11_method_11_code_160 3 rfl rfl rfl) (by decide) ?_
  exact b_Study_isFaultOfOne_167 X hf hZ hS (lv_sub hl [] rfl)

def f_Study_isFaultOfOne_125 (K : zK) (l3 : Int) (s0 : Int) (F : zF) (B : zB) : zO := zbind (f_Math_floorMod K s0 12 F B) (fun r21 F21 B21 => if 0 ≤ (zrm l3 7) ∧ (zrm l3 7) < ztl 9 then if r32 r21 then if r32 (ztv 9 (zrm l3 7)) then (if r21 < (ztv 9 (zrm l3 7)) then f_Study_isFaultOfOne_162 K F21 B21 else if 0 ≤ (zrm l3 7) ∧ (zrm l3 7) < ztl 10 then if r32 (ztv 10 (zrm l3 7)) then (if r21 ≤ (ztv 10 (zrm l3 7)) then f_Study_isFaultOfOne_167 K 0 F21 B21 else f_Study_isFaultOfOne_162 K F21 B21) else none else none) else none else none else none)
set_option maxHeartbeats 4000000 in
set_option maxRecDepth 100000 in
theorem b_Study_isFaultOfOne_125 {D : va_G} {ca : Nat → ClassId} {ad : Nat → Int → Nat → Nat} {L : List Nat} {aS vS : Nat → Nat} {A : Nat → Prop} {p : Program} {l : Launch} {e : Env} {s : State} {m : MethodId} {args : Array Value} {below : List Frame} {meth : Method} {c : Code} {K : zK} {r : Int} {F9 : zF} {B9 : zB} (X : zX D ca L aS vS A p s m args meth c prog_11_method_11_code 7 (Option.some Jvm.ClassFile.FieldType.boolean) "StaveHouse$Study") {l3 : Int} {s0 : Int} {F : zF} {B : zB} {H : Heap} {locs : List Loc} {ls : Array Slot} (hf : f_Study_isFaultOfOne_125 K l3 s0 F B = some (r, F9, B9)) (hZ : zH D ca ad lnC K.2 L F B A H) (hS : va_S A s.heap H locs) (hl : lv_has ls 7 [(3, .int (iI l3))]) : W p l e ({ frames := 1, cells := 0, slots := 0, locals := 22 } : Room) s m args below meth c H locs 0 0 (MQ below (Q_Study_isFaultOfOne K D ca ad L r F9 B9 A) args s 0 0 A) (F0 m 125 ls [.int (iI s0)]) := by
  obtain ⟨hx, hb, hr, hml, hown, hts, hlk, hK, hA, hL, hX⟩ := id X
  replace hf : (zbind (f_Math_floorMod K s0 12 F B) (fun r21 F21 B21 => if 0 ≤ (zrm l3 7) ∧ (zrm l3 7) < ztl 9 then if r32 r21 then if r32 (ztv 9 (zrm l3 7)) then (if r21 < (ztv 9 (zrm l3 7)) then f_Study_isFaultOfOne_162 K F21 B21 else if 0 ≤ (zrm l3 7) ∧ (zrm l3 7) < ztl 10 then if r32 (ztv 10 (zrm l3 7)) then (if r21 ≤ (ztv 10 (zrm l3 7)) then f_Study_isFaultOfOne_167 K 0 F21 B21 else f_Study_isFaultOfOne_162 K F21 B21) else none else none) else none else none else none)) = some (r, F9, B9) := hf
  refine lv_istore (lv' := [(5, .int (iI s0)), (3, .int (iI l3))]) hx hb (D_54 W_prog_11_method_11_code_96 29 rfl rfl) hl (by decide) rfl (fun ls hl => ?_)
  refine lv_iload hx hb (D_21 W_prog_11_method_11_code_96 31 rfl rfl) (lv_at hl 0 rfl) ?_
  refine lv_bipush (v := iI 12) hx hb (D_16 W_prog_11_method_11_code_128 1 rfl rfl rfl) (by decide) ?_
  obtain ⟨r21, F21, B21, hc21, hf⟩ := gbind hf
  refine va_calli (va_runS (As := [.int (iI s0), .int (iI 12)]) (rest := []) ⟨hx, hb, hml, hown, hts⟩ (c_Math_floorMod (l := l) hc21) (va_cwS 2 hts (gdS k_6_38 k_4_71 k_1_3 k_4_72) rfl rfl rfl (by decide +kernel) ⟨Nat.le_of_ble_eq_true rfl, Nat.le_of_ble_eq_true rfl⟩) (zPS X hZ hS [.int (iI s0), .int (iI 12)]) rfl rfl hl.1 rfl (lv_room (Nat.le_of_ble_eq_true rfl)) (D_184 W_prog_11_method_11_code_128 3 rfl rfl rfl) ⟨Nat.le_of_ble_eq_true rfl, Nat.le_of_ble_eq_true rfl⟩) hS (fun q _ h => zAin X hS q h) (zAin X hS) (fun p21 u21 t21 H21 locs21 ht21 hv21 hw21 hB21 hz21 hk21 hS21 => ?_)
  have hZ21 := zBack X ht21 hB21
  subst hw21
  refine lv_istore (lv' := [(6, .int (iI r21)), (5, .int (iI s0)), (3, .int (iI l3))]) hx hb (D_54 W_prog_11_method_11_code_128 6 rfl rfl) hl (by decide) rfl (fun ls hl => ?_)
  refine lv_iload hx hb (D_21 W_prog_11_method_11_code_128 8 rfl rfl) (lv_at hl 0 rfl) ?_
  refine va_gets hx hb (hX.2.2.2.2.2.2 9 _ rfl).1 hS21 hown (hts _ k_6_48) (fun _ h => h) (D_178 W_prog_11_method_11_code_128 10 rfl rfl rfl) ?_
  refine W.eq (g2 := F0 m 141 ls [.ref (vS (1000 + 9)), .int (iI r21)]) rfl ?_
  refine lv_iload_n hx hb (D_29 W_prog_11_method_11_code_128 13 rfl rfl) rfl (lv_at hl 2 rfl) ?_
  refine lv_bipush (v := iI 7) hx hb (D_16 W_prog_11_method_11_code_128 14 rfl rfl rfl) (by decide) ?_
  refine zrm_r hx hb (by decide) (D_112 W_prog_11_method_11_code_128 16 rfl rfl) ?_
  obtain ⟨g22, hf⟩ := gif hf
  refine va_ti (v := .int (iI (ztv 9 (zrm l3 7)))) hx hb (ztI hX (by decide) (by decide)) hS21 (zt_in (by decide) g22) (ztI_v (by decide) g22) (D_46 W_prog_11_method_11_code_128 17 rfl rfl) ?_
  obtain ⟨g23, hf⟩ := gif hf
  obtain ⟨g24, hf⟩ := gif hf
  refine zlt (tgt := 162) hx hb g23 g24 (D_161 W_prog_11_method_11_code_128 18 rfl rfl rfl) (by decide) (fun h25 => ?_) (fun h25 => ?_)
  · replace hf := gpos hf h25
    exact b_Study_isFaultOfOne_162 X hf hZ21 hS21 (lv_sub hl [] rfl)
  · replace hf := gneg hf h25
    refine lv_iload hx hb (D_21 W_prog_11_method_11_code_128 21 rfl rfl) (lv_at hl 0 rfl) ?_
    refine va_gets hx hb (hX.2.2.2.2.2.2 10 _ rfl).1 hS21 hown (hts _ k_6_50) (fun _ h => h) (D_178 W_prog_11_method_11_code_128 23 rfl rfl rfl) ?_
    refine W.eq (g2 := F0 m 154 ls [.ref (vS (1000 + 10)), .int (iI r21)]) rfl ?_
    refine lv_iload_n hx hb (D_29 W_prog_11_method_11_code_128 26 rfl rfl) rfl (lv_at hl 2 rfl) ?_
    refine lv_bipush (v := iI 7) hx hb (D_16 W_prog_11_method_11_code_128 27 rfl rfl rfl) (by decide) ?_
    refine zrm_r hx hb (by decide) (D_112 W_prog_11_method_11_code_128 29 rfl rfl) ?_
    obtain ⟨g26, hf⟩ := gif hf
    refine va_ti (v := .int (iI (ztv 10 (zrm l3 7)))) hx hb (ztI hX (by decide) (by decide)) hS21 (zt_in (by decide) g26) (ztI_v (by decide) g26) (D_46 W_prog_11_method_11_code_128 30 rfl rfl) ?_
    obtain ⟨g27, hf⟩ := gif hf
    refine zle (tgt := 166) hx hb g23 g27 (D_164 W_prog_11_method_11_code_128 31 rfl rfl rfl) (by decide) (fun h28 => ?_) (fun h28 => ?_)
    · replace hf := gpos hf h28
      refine lv_iconst (v := iI 0) hx hb (D_3 W_prog_11_method_11_code_160 6 rfl rfl) rfl ?_
      exact b_Study_isFaultOfOne_167 X hf hZ21 hS21 (lv_sub hl [] rfl)
    · replace hf := gneg hf h28
      exact b_Study_isFaultOfOne_162 X hf hZ21 hS21 (lv_sub hl [] rfl)

def f_Study_isFaultOfOne_109 (K : zK) (l3 : Int) (s0 : Int) (F : zF) (B : zB) : zO := if r32 l3 then (if l3 = 0 then if r32 s0 then f_Study_isFaultOfOne_125 K l3 (zabs s0) F B else none else f_Study_isFaultOfOne_125 K l3 s0 F B) else none
set_option maxHeartbeats 4000000 in
set_option maxRecDepth 100000 in
theorem b_Study_isFaultOfOne_109 {D : va_G} {ca : Nat → ClassId} {ad : Nat → Int → Nat → Nat} {L : List Nat} {aS vS : Nat → Nat} {A : Nat → Prop} {p : Program} {l : Launch} {e : Env} {s : State} {m : MethodId} {args : Array Value} {below : List Frame} {meth : Method} {c : Code} {K : zK} {r : Int} {F9 : zF} {B9 : zB} (X : zX D ca L aS vS A p s m args meth c prog_11_method_11_code 7 (Option.some Jvm.ClassFile.FieldType.boolean) "StaveHouse$Study") {l3 : Int} {s0 : Int} {F : zF} {B : zB} {H : Heap} {locs : List Loc} {ls : Array Slot} (hf : f_Study_isFaultOfOne_109 K l3 s0 F B = some (r, F9, B9)) (hZ : zH D ca ad lnC K.2 L F B A H) (hS : va_S A s.heap H locs) (hl : lv_has ls 7 [(3, .int (iI l3))]) : W p l e ({ frames := 1, cells := 0, slots := 0, locals := 22 } : Room) s m args below meth c H locs 0 0 (MQ below (Q_Study_isFaultOfOne K D ca ad L r F9 B9 A) args s 0 0 A) (F0 m 109 ls [.int (iI s0)]) := by
  obtain ⟨hx, hb, hr, hml, hown, hts, hlk, hK, hA, hL, hX⟩ := id X
  replace hf : (if r32 l3 then (if l3 = 0 then if r32 s0 then f_Study_isFaultOfOne_125 K l3 (zabs s0) F B else none else f_Study_isFaultOfOne_125 K l3 s0 F B) else none) = some (r, F9, B9) := hf
  refine lv_istore (lv' := [(4, .int (iI s0)), (3, .int (iI l3))]) hx hb (D_54 W_prog_11_method_11_code_96 13 rfl rfl) hl (by decide) rfl (fun ls hl => ?_)
  refine lv_iload_n hx hb (D_29 W_prog_11_method_11_code_96 15 rfl rfl) rfl (lv_at hl 1 rfl) ?_
  obtain ⟨g18, hf⟩ := gif hf
  refine z0ne (tgt := 123) hx hb g18 (D_154 W_prog_11_method_11_code_96 16 rfl rfl rfl) (by decide) (fun h19 => ?_) (fun h19 => ?_)
  · replace hf := gneg hf h19
    refine lv_iload hx hb (D_21 W_prog_11_method_11_code_96 27 rfl rfl) (lv_at hl 0 rfl) ?_
    exact b_Study_isFaultOfOne_125 X hf hZ hS (lv_sub hl [1] rfl)
  · replace hf := gpos hf h19
    refine lv_iload hx hb (D_21 W_prog_11_method_11_code_96 19 rfl rfl) (lv_at hl 0 rfl) ?_
    obtain ⟨g20, hf⟩ := gif hf
    refine va_mabs hx hb (by rw [hml]; exact hl.1.symm) hown (hts _ k_6_39) (hts _ k_4_229) (hts _ k_1_3) (hts _ k_4_230) (Nat.le_of_ble_eq_true rfl) (Nat.le_of_ble_eq_true rfl) (Nat.le_of_ble_eq_true rfl) (Nat.le_of_ble_eq_true rfl) (D_184 W_prog_11_method_11_code_96 21 rfl rfl rfl) ?_
    rw [zabs_e g20]
    refine lv_goto (tgt := 125) hx hb (D_167 W_prog_11_method_11_code_96 24 rfl rfl rfl) (by decide) ?_
    exact b_Study_isFaultOfOne_125 X hf hZ hS (lv_sub hl [1] rfl)

def f_Study_isFaultOfOne_64 (K : zK) (s0 : Int) (F : zF) (B : zB) : zO := if (s0 = 0 ∨ s0 = 1) then some (s0, F, B) else none
set_option maxHeartbeats 4000000 in
set_option maxRecDepth 100000 in
theorem b_Study_isFaultOfOne_64 {D : va_G} {ca : Nat → ClassId} {ad : Nat → Int → Nat → Nat} {L : List Nat} {aS vS : Nat → Nat} {A : Nat → Prop} {p : Program} {l : Launch} {e : Env} {s : State} {m : MethodId} {args : Array Value} {below : List Frame} {meth : Method} {c : Code} {K : zK} {r : Int} {F9 : zF} {B9 : zB} (X : zX D ca L aS vS A p s m args meth c prog_11_method_11_code 7 (Option.some Jvm.ClassFile.FieldType.boolean) "StaveHouse$Study") {s0 : Int} {F : zF} {B : zB} {H : Heap} {locs : List Loc} {ls : Array Slot} (hf : f_Study_isFaultOfOne_64 K s0 F B = some (r, F9, B9)) (hZ : zH D ca ad lnC K.2 L F B A H) (hS : va_S A s.heap H locs) (hl : lv_has ls 7 []) : W p l e ({ frames := 1, cells := 0, slots := 0, locals := 22 } : Room) s m args below meth c H locs 0 0 (MQ below (Q_Study_isFaultOfOne K D ca ad L r F9 B9 A) args s 0 0 A) (F0 m 64 ls [.int (iI s0)]) := by
  obtain ⟨hx, hb, hr, hml, hown, hts, hlk, hK, hA, hL, hX⟩ := id X
  replace hf : (if (s0 = 0 ∨ s0 = 1) then some (s0, F, B) else none) = some (r, F9, B9) := hf
  obtain ⟨g17, hf⟩ := gif hf
  cases hf
  exact W.zret hx hb hr (zbool g17) (fun t ht hW => ⟨⟨_, (), rfl, rfl, by rw [ht]; exact hZ, va_K.moved hW.alike hK⟩, hS.F ht⟩) hS.2.2 (D_172 W_prog_11_method_11_code_64 0 rfl rfl) hlk

def f_Study_isFaultOfOne_29 (K : zK)  (F : zF) (B : zB) : zO := some (0, F, B)
set_option maxHeartbeats 4000000 in
set_option maxRecDepth 100000 in
theorem b_Study_isFaultOfOne_29 {D : va_G} {ca : Nat → ClassId} {ad : Nat → Int → Nat → Nat} {L : List Nat} {aS vS : Nat → Nat} {A : Nat → Prop} {p : Program} {l : Launch} {e : Env} {s : State} {m : MethodId} {args : Array Value} {below : List Frame} {meth : Method} {c : Code} {K : zK} {r : Int} {F9 : zF} {B9 : zB} (X : zX D ca L aS vS A p s m args meth c prog_11_method_11_code 7 (Option.some Jvm.ClassFile.FieldType.boolean) "StaveHouse$Study")  {F : zF} {B : zB} {H : Heap} {locs : List Loc} {ls : Array Slot} (hf : f_Study_isFaultOfOne_29 K  F B = some (r, F9, B9)) (hZ : zH D ca ad lnC K.2 L F B A H) (hS : va_S A s.heap H locs) (hl : lv_has ls 7 []) : W p l e ({ frames := 1, cells := 0, slots := 0, locals := 22 } : Room) s m args below meth c H locs 0 0 (MQ below (Q_Study_isFaultOfOne K D ca ad L r F9 B9 A) args s 0 0 A) (F0 m 29 ls []) := by
  obtain ⟨hx, hb, hr, hml, hown, hts, hlk, hK, hA, hL, hX⟩ := id X
  replace hf : (some (0, F, B)) = some (r, F9, B9) := hf
  refine lv_iconst (v := iI 0) hx hb (D_3 W_prog_11_method_11_code_0 29 rfl rfl) rfl ?_
  cases hf
  exact W.zret hx hb hr rfl (fun t ht hW => ⟨⟨_, (), rfl, rfl, by rw [ht]; exact hZ, va_K.moved hW.alike hK⟩, hS.F ht⟩) hS.2.2 (D_172 W_prog_11_method_11_code_0 30 rfl rfl) hlk

def f_Study_isFaultOfOne (K : zK) (l0 : Int) (l1 : Int) (l2 : Int) (F : zF) (B : zB) : zO := if 0 ≤ l0 ∧ l0 < K.2 9 then if 0 ≤ l2 ∧ l2 < 4 then if r32 (B 9 l0 9 l2) then (if (B 9 l0 9 l2) = 0 then f_Study_isFaultOfOne_29 K F B else if r32 (B 9 l0 6 l2) then (if (B 9 l0 6 l2) = (-1) then f_Study_isFaultOfOne_29 K F B else if r32 (B 9 l0 8 l2) then (if (B 9 l0 8 l2) = (-1) then f_Study_isFaultOfOne_29 K F B else if r32 ((B 9 l0 5 l2) - (B 9 l0 7 l2)) then if r32 l1 then (if l1 = 5 then if r32 (zabs ((B 9 l0 5 l2) - (B 9 l0 7 l2))) then (if (zabs ((B 9 l0 5 l2) - (B 9 l0 7 l2))) ≤ 7 then f_Study_isFaultOfOne_64 K 0 F B else f_Study_isFaultOfOne_64 K 1 F B) else none else if r32 (B 9 l0 5 l2) then if r32 (B 9 l0 7 l2) then (if (B 9 l0 5 l2) ≤ (B 9 l0 7 l2) then f_Study_isFaultOfOne_109 K (zabs ((B 9 l0 5 l2) - (B 9 l0 7 l2))) ((B 9 l0 8 l2) - (B 9 l0 6 l2)) F B else f_Study_isFaultOfOne_109 K (zabs ((B 9 l0 5 l2) - (B 9 l0 7 l2))) ((B 9 l0 6 l2) - (B 9 l0 8 l2)) F B) else none else none) else none else none) else none) else none) else none else none else none
set_option maxHeartbeats 4000000 in
set_option maxRecDepth 100000 in
theorem c_Study_isFaultOfOne {l : Launch} {D : va_G} {ca : Nat → ClassId} {ad : Nat → Int → Nat → Nat} {L : List Nat} {aS vS : Nat → Nat} {sz : Nat} {K : zK}  {l0 : Int} {l1 : Int} {l2 : Int} {F F9 : zF} {B B9 : zB} {r : Int} (hf : f_Study_isFaultOfOne K l0 l1 l2 F B = some (r, F9, B9)) : Met l ({ cls := "StaveHouse$Study", name := "isFaultOfOne", desc := "(II)Z" } : Jvm.MethodName) (Cond.code ({ cls := "StaveHouse$Study", name := "isFaultOfOne", desc := "(II)Z" } : Jvm.MethodName) prog_11_method_11_code 7 (Option.some Jvm.ClassFile.FieldType.boolean) :: wAll) ({ frames := 1, cells := 0, slots := 0, locals := 22 } : Room) (va_Pc [.ref (ad 9 l0 0), .int (iI l1), .int (iI l2)] (zPre D ca ad lnC K.2 L aS vS F B sz)) (Q_Study_isFaultOfOne K D ca ad L r F9 B9 (zA L sz)) 0 0 (zA L sz) := by
  refine zMet (Qc := Q_Study_isFaultOfOne K D ca ad L r F9 B9) (lv := [(0, .ref (ad 9 l0 0)), (1, .int (iI l1)), (2, .int (iI l2))]) (by decide) (Nat.le_of_ble_eq_true rfl) rfl (fun A p e s m below meth c ls X hZ hS hl => ?_)
  obtain ⟨hx, hb, hr, hml, hown, hts, hlk, hK, hA, hL, hX⟩ := id X
  replace hf : (if 0 ≤ l0 ∧ l0 < K.2 9 then if 0 ≤ l2 ∧ l2 < 4 then if r32 (B 9 l0 9 l2) then (if (B 9 l0 9 l2) = 0 then f_Study_isFaultOfOne_29 K F B else if r32 (B 9 l0 6 l2) then (if (B 9 l0 6 l2) = (-1) then f_Study_isFaultOfOne_29 K F B else if r32 (B 9 l0 8 l2) then (if (B 9 l0 8 l2) = (-1) then f_Study_isFaultOfOne_29 K F B else if r32 ((B 9 l0 5 l2) - (B 9 l0 7 l2)) then if r32 l1 then (if l1 = 5 then if r32 (zabs ((B 9 l0 5 l2) - (B 9 l0 7 l2))) then (if (zabs ((B 9 l0 5 l2) - (B 9 l0 7 l2))) ≤ 7 then f_Study_isFaultOfOne_64 K 0 F B else f_Study_isFaultOfOne_64 K 1 F B) else none else if r32 (B 9 l0 5 l2) then if r32 (B 9 l0 7 l2) then (if (B 9 l0 5 l2) ≤ (B 9 l0 7 l2) then f_Study_isFaultOfOne_109 K (zabs ((B 9 l0 5 l2) - (B 9 l0 7 l2))) ((B 9 l0 8 l2) - (B 9 l0 6 l2)) F B else f_Study_isFaultOfOne_109 K (zabs ((B 9 l0 5 l2) - (B 9 l0 7 l2))) ((B 9 l0 6 l2) - (B 9 l0 8 l2)) F B) else none else none) else none else none) else none) else none) else none else none else none) = some (r, F9, B9) := hf
  refine lv_aload_n hx hb (D_42 W_prog_11_method_11_code_0 0 rfl rfl) rfl (lv_at hl 0 rfl) ?_
  obtain ⟨g1, hf⟩ := gif hf
  refine zget (ci := 9) (C := RX9) (T := TX9) (v := .ref (ad 9 l0 (9 + 1))) (k := 9) hx hb hts inW_9 hown hK hZ g1.1 g1.2 rfl (by decide) k_5_210 rfl (D_180 W_prog_11_method_11_code_0 1 rfl rfl rfl) ?_
  refine lv_iload_n hx hb (D_28 W_prog_11_method_11_code_0 4 rfl rfl) rfl (lv_at hl 2 rfl) ?_
  obtain ⟨g2, hf⟩ := gif hf
  refine zzald (ci := 9) (k := 9) hx hb hK rfl hZ g1.1 g1.2 rfl (Nat.le_of_ble_eq_true rfl) g2.1 g2.2 (D_51 W_prog_11_method_11_code_0 5 rfl rfl) ?_
  obtain ⟨g3, hf⟩ := gif hf
  refine z0eq (tgt := 29) hx hb g3 (D_153 W_prog_11_method_11_code_0 6 rfl rfl rfl) (by decide) (fun h4 => ?_) (fun h4 => ?_)
  · replace hf := gpos hf h4
    exact b_Study_isFaultOfOne_29 X hf hZ hS (lv_sub hl [] rfl)
  · replace hf := gneg hf h4
    refine lv_aload_n hx hb (D_42 W_prog_11_method_11_code_0 9 rfl rfl) rfl (lv_at hl 0 rfl) ?_
    refine zget (ci := 9) (C := RX9) (T := TX9) (v := .ref (ad 9 l0 (6 + 1))) (k := 6) hx hb hts inW_9 hown hK hZ g1.1 g1.2 rfl (by decide) k_5_207 rfl (D_180 W_prog_11_method_11_code_0 10 rfl rfl rfl) ?_
    refine lv_iload_n hx hb (D_28 W_prog_11_method_11_code_0 13 rfl rfl) rfl (lv_at hl 2 rfl) ?_
    refine zald (ci := 9) (k := 6) hx hb hK rfl hZ g1.1 g1.2 rfl (Nat.le_of_ble_eq_true rfl) g2.1 g2.2 (D_46 W_prog_11_method_11_code_0 14 rfl rfl) ?_
    refine lv_iconst (v := iI (-1)) hx hb (D_2 W_prog_11_method_11_code_0 15 rfl rfl) rfl ?_
    obtain ⟨g5, hf⟩ := gif hf
    refine zeq (tgt := 29) hx hb g5 (by decide) (D_159 W_prog_11_method_11_code_0 16 rfl rfl rfl) (by decide) (fun h6 => ?_) (fun h6 => ?_)
    · replace hf := gpos hf h6
      exact b_Study_isFaultOfOne_29 X hf hZ hS (lv_sub hl [] rfl)
    · replace hf := gneg hf h6
      refine lv_aload_n hx hb (D_42 W_prog_11_method_11_code_0 19 rfl rfl) rfl (lv_at hl 0 rfl) ?_
      refine zget (ci := 9) (C := RX9) (T := TX9) (v := .ref (ad 9 l0 (8 + 1))) (k := 8) hx hb hts inW_9 hown hK hZ g1.1 g1.2 rfl (by decide) k_5_209 rfl (D_180 W_prog_11_method_11_code_0 20 rfl rfl rfl) ?_
      refine lv_iload_n hx hb (D_28 W_prog_11_method_11_code_0 23 rfl rfl) rfl (lv_at hl 2 rfl) ?_
      refine zald (ci := 9) (k := 8) hx hb hK rfl hZ g1.1 g1.2 rfl (Nat.le_of_ble_eq_true rfl) g2.1 g2.2 (D_46 W_prog_11_method_11_code_0 24 rfl rfl) ?_
      refine lv_iconst (v := iI (-1)) hx hb (D_2 W_prog_11_method_11_code_0 25 rfl rfl) rfl ?_
      obtain ⟨g7, hf⟩ := gif hf
      refine zne (tgt := 31) hx hb g7 (by decide) (D_160 W_prog_11_method_11_code_0 26 rfl rfl rfl) (by decide) (fun h8 => ?_) (fun h8 => ?_)
      · replace hf := gneg hf h8
        refine lv_aload_n hx hb (D_42 W_prog_11_method_11_code_0 31 rfl rfl) rfl (lv_at hl 0 rfl) ?_
        refine zget (ci := 9) (C := RX9) (T := TX9) (v := .ref (ad 9 l0 (5 + 1))) (k := 5) hx hb hts inW_9 hown hK hZ g1.1 g1.2 rfl (by decide) k_5_206 rfl (D_180 W_prog_11_method_11_code_32 0 rfl rfl rfl) ?_
        refine lv_iload_n hx hb (D_28 W_prog_11_method_11_code_32 3 rfl rfl) rfl (lv_at hl 2 rfl) ?_
        refine zald (ci := 9) (k := 5) hx hb hK rfl hZ g1.1 g1.2 rfl (Nat.le_of_ble_eq_true rfl) g2.1 g2.2 (D_46 W_prog_11_method_11_code_32 4 rfl rfl) ?_
        refine lv_aload_n hx hb (D_42 W_prog_11_method_11_code_32 5 rfl rfl) rfl (lv_at hl 0 rfl) ?_
        refine zget (ci := 9) (C := RX9) (T := TX9) (v := .ref (ad 9 l0 (7 + 1))) (k := 7) hx hb hts inW_9 hown hK hZ g1.1 g1.2 rfl (by decide) k_5_208 rfl (D_180 W_prog_11_method_11_code_32 6 rfl rfl rfl) ?_
        refine lv_iload_n hx hb (D_28 W_prog_11_method_11_code_32 9 rfl rfl) rfl (lv_at hl 2 rfl) ?_
        refine zald (ci := 9) (k := 7) hx hb hK rfl hZ g1.1 g1.2 rfl (Nat.le_of_ble_eq_true rfl) g2.1 g2.2 (D_46 W_prog_11_method_11_code_32 10 rfl rfl) ?_
        refine zsub hx hb (D_100 W_prog_11_method_11_code_32 11 rfl rfl) ?_
        obtain ⟨g9, hf⟩ := gif hf
        refine va_mabs hx hb (by rw [hml]; exact hl.1.symm) hown (hts _ k_6_39) (hts _ k_4_229) (hts _ k_1_3) (hts _ k_4_230) (Nat.le_of_ble_eq_true rfl) (Nat.le_of_ble_eq_true rfl) (Nat.le_of_ble_eq_true rfl) (Nat.le_of_ble_eq_true rfl) (D_184 W_prog_11_method_11_code_32 12 rfl rfl rfl) ?_
        rw [zabs_e g9]
        refine lv_istore_n (lv' := [(3, .int (iI (zabs ((B 9 l0 5 l2) - (B 9 l0 7 l2))))), (0, .ref (ad 9 l0 0)), (1, .int (iI l1)), (2, .int (iI l2))]) hx hb (D_62 W_prog_11_method_11_code_32 15 rfl rfl) rfl hl (by decide) rfl (fun ls hl => ?_)
        refine lv_iload_n hx hb (D_27 W_prog_11_method_11_code_32 16 rfl rfl) rfl (lv_at hl 2 rfl) ?_
        refine lv_iconst (v := iI 5) hx hb (D_8 W_prog_11_method_11_code_32 17 rfl rfl) rfl ?_
        obtain ⟨g10, hf⟩ := gif hf
        refine zne (tgt := 65) hx hb g10 (by decide) (D_160 W_prog_11_method_11_code_32 18 rfl rfl rfl) (by decide) (fun h11 => ?_) (fun h11 => ?_)
        · replace hf := gneg hf h11
          refine lv_aload_n hx hb (D_42 W_prog_11_method_11_code_64 1 rfl rfl) rfl (lv_at hl 1 rfl) ?_
          refine zget (ci := 9) (C := RX9) (T := TX9) (v := .ref (ad 9 l0 (5 + 1))) (k := 5) hx hb hts inW_9 hown hK hZ g1.1 g1.2 rfl (by decide) k_5_206 rfl (D_180 W_prog_11_method_11_code_64 2 rfl rfl rfl) ?_
          refine lv_iload_n hx hb (D_28 W_prog_11_method_11_code_64 5 rfl rfl) rfl (lv_at hl 3 rfl) ?_
          refine zald (ci := 9) (k := 5) hx hb hK rfl hZ g1.1 g1.2 rfl (Nat.le_of_ble_eq_true rfl) g2.1 g2.2 (D_46 W_prog_11_method_11_code_64 6 rfl rfl) ?_
          refine lv_aload_n hx hb (D_42 W_prog_11_method_11_code_64 7 rfl rfl) rfl (lv_at hl 1 rfl) ?_
          refine zget (ci := 9) (C := RX9) (T := TX9) (v := .ref (ad 9 l0 (7 + 1))) (k := 7) hx hb hts inW_9 hown hK hZ g1.1 g1.2 rfl (by decide) k_5_208 rfl (D_180 W_prog_11_method_11_code_64 8 rfl rfl rfl) ?_
          refine lv_iload_n hx hb (D_28 W_prog_11_method_11_code_64 11 rfl rfl) rfl (lv_at hl 3 rfl) ?_
          refine zald (ci := 9) (k := 7) hx hb hK rfl hZ g1.1 g1.2 rfl (Nat.le_of_ble_eq_true rfl) g2.1 g2.2 (D_46 W_prog_11_method_11_code_64 12 rfl rfl) ?_
          obtain ⟨g12, hf⟩ := gif hf
          obtain ⟨g13, hf⟩ := gif hf
          refine zle (tgt := 96) hx hb g12 g13 (D_164 W_prog_11_method_11_code_64 13 rfl rfl rfl) (by decide) (fun h14 => ?_) (fun h14 => ?_)
          · replace hf := gpos hf h14
            refine lv_aload_n hx hb (D_42 W_prog_11_method_11_code_96 0 rfl rfl) rfl (lv_at hl 1 rfl) ?_
            refine zget (ci := 9) (C := RX9) (T := TX9) (v := .ref (ad 9 l0 (8 + 1))) (k := 8) hx hb hts inW_9 hown hK hZ g1.1 g1.2 rfl (by decide) k_5_209 rfl (D_180 W_prog_11_method_11_code_96 1 rfl rfl rfl) ?_
            refine lv_iload_n hx hb (D_28 W_prog_11_method_11_code_96 4 rfl rfl) rfl (lv_at hl 3 rfl) ?_
            refine zald (ci := 9) (k := 8) hx hb hK rfl hZ g1.1 g1.2 rfl (Nat.le_of_ble_eq_true rfl) g2.1 g2.2 (D_46 W_prog_11_method_11_code_96 5 rfl rfl) ?_
            refine lv_aload_n hx hb (D_42 W_prog_11_method_11_code_96 6 rfl rfl) rfl (lv_at hl 1 rfl) ?_
            refine zget (ci := 9) (C := RX9) (T := TX9) (v := .ref (ad 9 l0 (6 + 1))) (k := 6) hx hb hts inW_9 hown hK hZ g1.1 g1.2 rfl (by decide) k_5_207 rfl (D_180 W_prog_11_method_11_code_96 7 rfl rfl rfl) ?_
            refine lv_iload_n hx hb (D_28 W_prog_11_method_11_code_96 10 rfl rfl) rfl (lv_at hl 3 rfl) ?_
            refine zald (ci := 9) (k := 6) hx hb hK rfl hZ g1.1 g1.2 rfl (Nat.le_of_ble_eq_true rfl) g2.1 g2.2 (D_46 W_prog_11_method_11_code_96 11 rfl rfl) ?_
            refine zsub hx hb (D_100 W_prog_11_method_11_code_96 12 rfl rfl) ?_
            exact b_Study_isFaultOfOne_109 X hf hZ hS (lv_sub hl [0] rfl)
          · replace hf := gneg hf h14
            refine lv_aload_n hx hb (D_42 W_prog_11_method_11_code_64 16 rfl rfl) rfl (lv_at hl 1 rfl) ?_
            refine zget (ci := 9) (C := RX9) (T := TX9) (v := .ref (ad 9 l0 (6 + 1))) (k := 6) hx hb hts inW_9 hown hK hZ g1.1 g1.2 rfl (by decide) k_5_207 rfl (D_180 W_prog_11_method_11_code_64 17 rfl rfl rfl) ?_
            refine lv_iload_n hx hb (D_28 W_prog_11_method_11_code_64 20 rfl rfl) rfl (lv_at hl 3 rfl) ?_
            refine zald (ci := 9) (k := 6) hx hb hK rfl hZ g1.1 g1.2 rfl (Nat.le_of_ble_eq_true rfl) g2.1 g2.2 (D_46 W_prog_11_method_11_code_64 21 rfl rfl) ?_
            refine lv_aload_n hx hb (D_42 W_prog_11_method_11_code_64 22 rfl rfl) rfl (lv_at hl 1 rfl) ?_
            refine zget (ci := 9) (C := RX9) (T := TX9) (v := .ref (ad 9 l0 (8 + 1))) (k := 8) hx hb hts inW_9 hown hK hZ g1.1 g1.2 rfl (by decide) k_5_209 rfl (D_180 W_prog_11_method_11_code_64 23 rfl rfl rfl) ?_
            refine lv_iload_n hx hb (D_28 W_prog_11_method_11_code_64 26 rfl rfl) rfl (lv_at hl 3 rfl) ?_
            refine zald (ci := 9) (k := 8) hx hb hK rfl hZ g1.1 g1.2 rfl (Nat.le_of_ble_eq_true rfl) g2.1 g2.2 (D_46 W_prog_11_method_11_code_64 27 rfl rfl) ?_
            refine zsub hx hb (D_100 W_prog_11_method_11_code_64 28 rfl rfl) ?_
            refine lv_goto (tgt := 109) hx hb (D_167 W_prog_11_method_11_code_64 29 rfl rfl rfl) (by decide) ?_
            exact b_Study_isFaultOfOne_109 X hf hZ hS (lv_sub hl [0] rfl)
        · replace hf := gpos hf h11
          refine lv_iload_n hx hb (D_29 W_prog_11_method_11_code_32 21 rfl rfl) rfl (lv_at hl 0 rfl) ?_
          refine lv_bipush (v := iI 7) hx hb (D_16 W_prog_11_method_11_code_32 22 rfl rfl rfl) (by decide) ?_
          obtain ⟨g15, hf⟩ := gif hf
          refine zle (tgt := 63) hx hb g15 (by decide) (D_164 W_prog_11_method_11_code_32 24 rfl rfl rfl) (by decide) (fun h16 => ?_) (fun h16 => ?_)
          · replace hf := gpos hf h16
            refine lv_iconst (v := iI 0) hx hb (D_3 W_prog_11_method_11_code_32 31 rfl rfl) rfl ?_
            exact b_Study_isFaultOfOne_64 X hf hZ hS (lv_sub hl [] rfl)
          · replace hf := gneg hf h16
            refine lv_iconst (v := iI 1) hx hb (D_4 W_prog_11_method_11_code_32 27 rfl rfl) rfl ?_
            refine lv_goto (tgt := 64) hx hb (D_167 W_prog_11_method_11_code_32 28 rfl rfl rfl) (by decide) ?_
            exact b_Study_isFaultOfOne_64 X hf hZ hS (lv_sub hl [] rfl)
      · replace hf := gpos hf h8
        exact b_Study_isFaultOfOne_29 X hf hZ hS (lv_sub hl [] rfl)

abbrev Q_Performance_tick (K : zK) (D : va_G) (ca : Nat → ClassId) (ad : Nat → Int → Nat → Nat) (L : List Nat) (r : Int) (F : zF) (B : zB) (A : Nat → Prop) : Array Value → State → Outcome → State → Prop := va_Qi (S := Unit) (fun p _ => p = iI r) (fun _ => zPo D ca ad lnC K.2 L F B A) A
def f_Performance_tick (K : zK) (l0 : Int) (F : zF) (B : zB) : zO := some (zldv (384 * l0) 812851200, F, B)
set_option maxHeartbeats 4000000 in
set_option maxRecDepth 100000 in
theorem c_Performance_tick {l : Launch} {D : va_G} {ca : Nat → ClassId} {ad : Nat → Int → Nat → Nat} {L : List Nat} {aS vS : Nat → Nat} {sz : Nat} {K : zK}  {l0 : Int} {F F9 : zF} {B B9 : zB} {r : Int} (hf : f_Performance_tick K l0 F B = some (r, F9, B9)) : Met l ({ cls := "StaveHouse$Performance", name := "tick", desc := "(J)I" } : Jvm.MethodName) (Cond.code ({ cls := "StaveHouse$Performance", name := "tick", desc := "(J)I" } : Jvm.MethodName) prog_7_method_4_code 2 (Option.some Jvm.ClassFile.FieldType.int) :: wAll) ({ frames := 0, cells := 0, slots := 0, locals := 0 } : Room) (va_Pc [.long (lI l0)] (zPre D ca ad lnC K.2 L aS vS F B sz)) (Q_Performance_tick K D ca ad L r F9 B9 (zA L sz)) 0 0 (zA L sz) := by
  refine zMet (Qc := Q_Performance_tick K D ca ad L r F9 B9) (lv := [(0, .long (lI l0))]) (by decide) (Nat.le_of_ble_eq_true rfl) rfl (fun A p e s m below meth c ls X hZ hS hl => ?_)
  obtain ⟨hx, hb, hr, hml, hown, hts, hlk, hK, hA, hL, hX⟩ := id X
  replace hf : (some (zldv (384 * l0) 812851200, F, B)) = some (r, F9, B9) := hf
  refine lv_ldc2 hx hb hown (hts _ k_6_129) (D_20 W_prog_7_method_4_code_0 0 rfl rfl rfl) ?_
  refine W.eq (g2 := F0 m 3 ls [.long (lI 384)]) rfl ?_
  refine lv_lload_n hx hb (D_30 W_prog_7_method_4_code_0 3 rfl rfl) rfl (lv_at hl 0 rfl) ?_
  refine zlmul hx hb (D_105 W_prog_7_method_4_code_0 4 rfl rfl) ?_
  refine lv_ldc2 hx hb hown (hts _ k_6_130) (D_20 W_prog_7_method_4_code_0 5 rfl rfl rfl) ?_
  refine W.eq (g2 := F0 m 8 ls [.long (lI 812851200), .long (lI (384 * l0))]) rfl ?_
  refine zldv_r hx hb (by decide) (D_109 W_prog_7_method_4_code_0 8 rfl rfl) ?_
  refine zl2iw hx hb (D_136 W_prog_7_method_4_code_0 9 rfl rfl) ?_
  cases hf
  exact W.iret hx hb hr (fun t ht hW => ⟨⟨_, (), rfl, rfl, by rw [ht]; exact hZ, va_K.moved hW.alike hK⟩, hS.F ht⟩) hS.2.2 (D_172 W_prog_7_method_4_code_0 10 rfl rfl) hlk

abbrev Q_Performance_force (K : zK) (D : va_G) (ca : Nat → ClassId) (ad : Nat → Int → Nat → Nat) (L : List Nat) (r : Int) (F : zF) (B : zB) (A : Nat → Prop) : Array Value → State → Outcome → State → Prop := va_Qi (S := Unit) (fun p _ => p = iI r) (fun _ => zPo D ca ad lnC K.2 L F B A) A
def f_Performance_force_25 (K : zK) (s0 : Int) (s1 : Int) (F : zF) (B : zB) : zO := if r32 (s0 + s1) then some (zmin (s0 + s1) 127, F, B) else none
set_option maxHeartbeats 4000000 in
set_option maxRecDepth 100000 in
theorem b_Performance_force_25 {D : va_G} {ca : Nat → ClassId} {ad : Nat → Int → Nat → Nat} {L : List Nat} {aS vS : Nat → Nat} {A : Nat → Prop} {p : Program} {l : Launch} {e : Env} {s : State} {m : MethodId} {args : Array Value} {below : List Frame} {meth : Method} {c : Code} {K : zK} {r : Int} {F9 : zF} {B9 : zB} (X : zX D ca L aS vS A p s m args meth c prog_7_method_5_code 1 (Option.some Jvm.ClassFile.FieldType.int) "StaveHouse$Performance") {s0 : Int} {s1 : Int} {F : zF} {B : zB} {H : Heap} {locs : List Loc} {ls : Array Slot} (hf : f_Performance_force_25 K s0 s1 F B = some (r, F9, B9)) (hZ : zH D ca ad lnC K.2 L F B A H) (hS : va_S A s.heap H locs) (hl : lv_has ls 1 []) : W p l e ({ frames := 1, cells := 0, slots := 0, locals := 21 } : Room) s m args below meth c H locs 0 0 (MQ below (Q_Performance_force K D ca ad L r F9 B9 A) args s 0 0 A) (F0 m 25 ls [.int (iI s1), .int (iI s0)]) := by
  obtain ⟨hx, hb, hr, hml, hown, hts, hlk, hK, hA, hL, hX⟩ := id X
  replace hf : (if r32 (s0 + s1) then some (zmin (s0 + s1) 127, F, B) else none) = some (r, F9, B9) := hf
  refine zadd hx hb (D_96 W_prog_7_method_5_code_0 25 rfl rfl) ?_
  refine lv_bipush (v := iI 127) hx hb (D_16 W_prog_7_method_5_code_0 26 rfl rfl rfl) (by decide) ?_
  obtain ⟨g5, hf⟩ := gif hf
  refine va_mmin hx hb (by rw [hml]; exact hl.1.symm) hown (hts _ k_6_134) (hts _ k_3_97) (hts _ k_1_3) (hts _ k_3_98) (Nat.le_of_ble_eq_true rfl) (Nat.le_of_ble_eq_true rfl) (Nat.le_of_ble_eq_true rfl) (Nat.le_of_ble_eq_true rfl) (D_184 W_prog_7_method_5_code_0 28 rfl rfl rfl) ?_
  rw [zmin_e g5 (by decide)]
  cases hf
  exact W.iret hx hb hr (fun t ht hW => ⟨⟨_, (), rfl, rfl, by rw [ht]; exact hZ, va_K.moved hW.alike hK⟩, hS.F ht⟩) hS.2.2 (D_172 W_prog_7_method_5_code_0 31 rfl rfl) hlk

def f_Performance_force (K : zK) (l0 : Int) (F : zF) (B : zB) : zO := if 0 ≤ l0 ∧ l0 < K.2 1 then zbind (f_Event_has K l0 16 F B) (fun r2 F2 B2 => if r32 r2 then (if r2 = 0 then f_Performance_force_25 K (20 + (13 * (F 1 l0 8))) 0 F2 B2 else f_Performance_force_25 K (20 + (13 * (F 1 l0 8))) 15 F2 B2) else none) else none
set_option maxHeartbeats 4000000 in
set_option maxRecDepth 100000 in
theorem c_Performance_force {l : Launch} {D : va_G} {ca : Nat → ClassId} {ad : Nat → Int → Nat → Nat} {L : List Nat} {aS vS : Nat → Nat} {sz : Nat} {K : zK}  {l0 : Int} {F F9 : zF} {B B9 : zB} {r : Int} (hf : f_Performance_force K l0 F B = some (r, F9, B9)) : Met l ({ cls := "StaveHouse$Performance", name := "force", desc := "(LStaveHouse$Event;)I" } : Jvm.MethodName) (Cond.code ({ cls := "StaveHouse$Performance", name := "force", desc := "(LStaveHouse$Event;)I" } : Jvm.MethodName) prog_7_method_5_code 1 (Option.some Jvm.ClassFile.FieldType.int) :: wAll) ({ frames := 1, cells := 0, slots := 0, locals := 21 } : Room) (va_Pc [.ref (ad 1 l0 0)] (zPre D ca ad lnC K.2 L aS vS F B sz)) (Q_Performance_force K D ca ad L r F9 B9 (zA L sz)) 0 0 (zA L sz) := by
  refine zMet (Qc := Q_Performance_force K D ca ad L r F9 B9) (lv := [(0, .ref (ad 1 l0 0))]) (by decide) (Nat.le_of_ble_eq_true rfl) rfl (fun A p e s m below meth c ls X hZ hS hl => ?_)
  obtain ⟨hx, hb, hr, hml, hown, hts, hlk, hK, hA, hL, hX⟩ := id X
  replace hf : (if 0 ≤ l0 ∧ l0 < K.2 1 then zbind (f_Event_has K l0 16 F B) (fun r2 F2 B2 => if r32 r2 then (if r2 = 0 then f_Performance_force_25 K (20 + (13 * (F 1 l0 8))) 0 F2 B2 else f_Performance_force_25 K (20 + (13 * (F 1 l0 8))) 15 F2 B2) else none) else none) = some (r, F9, B9) := hf
  refine lv_bipush (v := iI 20) hx hb (D_16 W_prog_7_method_5_code_0 0 rfl rfl rfl) (by decide) ?_
  refine lv_bipush (v := iI 13) hx hb (D_16 W_prog_7_method_5_code_0 2 rfl rfl rfl) (by decide) ?_
  refine lv_aload_n hx hb (D_42 W_prog_7_method_5_code_0 4 rfl rfl) rfl (lv_at hl 0 rfl) ?_
  obtain ⟨g1, hf⟩ := gif hf
  refine zget (ci := 1) (C := RX1) (T := TX1) (v := .int (iI (F 1 l0 8))) (k := 8) hx hb hts inW_1 hown hK hZ g1.1 g1.2 rfl (by decide) k_2_42 rfl (D_180 W_prog_7_method_5_code_0 5 rfl rfl rfl) ?_
  refine zmul hx hb (D_104 W_prog_7_method_5_code_0 8 rfl rfl) ?_
  refine zadd hx hb (D_96 W_prog_7_method_5_code_0 9 rfl rfl) ?_
  refine lv_aload_n hx hb (D_42 W_prog_7_method_5_code_0 10 rfl rfl) rfl (lv_at hl 0 rfl) ?_
  refine lv_bipush (v := iI 16) hx hb (D_16 W_prog_7_method_5_code_0 11 rfl rfl rfl) (by decide) ?_
  obtain ⟨r2, F2, B2, hc2, hf⟩ := gbind hf
  refine va_calli (va_runV (As := [.int (iI 16)]) (rest := [.int (iI (20 + (13 * (F 1 l0 8))))]) ⟨hx, hb, hml, hown, hts⟩ (c_Event_has (l := l) hc2) (cwV 1 hts (gdV k_6_119 k_5_16 k_5_17 k_1_8 k_5_18) rfl rfl rfl (by decide +kernel) ⟨Nat.le_of_ble_eq_true rfl, Nat.le_of_ble_eq_true rfl⟩) (zPV X hZ hS (ci := 1) g1.1 g1.2 (r := (RX1, TX1, 14)) rfl [.int (iI 16)]) rfl rfl hl.1 rfl (lv_room (Nat.le_of_ble_eq_true rfl)) (D_182 W_prog_7_method_5_code_0 13 rfl rfl rfl) ⟨Nat.le_of_ble_eq_true rfl, Nat.le_of_ble_eq_true rfl⟩) hS (fun q _ h => zAin X hS q h) (zAin X hS) (fun p2 u2 t2 H2 locs2 ht2 hv2 hw2 hB2 hz2 hk2 hS2 => ?_)
  have hZ2 := zBack X ht2 hB2
  subst hw2
  obtain ⟨g3, hf⟩ := gif hf
  refine z0eq (tgt := 24) hx hb g3 (D_153 W_prog_7_method_5_code_0 16 rfl rfl rfl) (by decide) (fun h4 => ?_) (fun h4 => ?_)
  · replace hf := gpos hf h4
    refine lv_iconst (v := iI 0) hx hb (D_3 W_prog_7_method_5_code_0 24 rfl rfl) rfl ?_
    exact b_Performance_force_25 X hf hZ2 hS2 (lv_sub hl [] rfl)
  · replace hf := gneg hf h4
    refine lv_bipush (v := iI 15) hx hb (D_16 W_prog_7_method_5_code_0 19 rfl rfl rfl) (by decide) ?_
    refine lv_goto (tgt := 25) hx hb (D_167 W_prog_7_method_5_code_0 21 rfl rfl rfl) (by decide) ?_
    exact b_Performance_force_25 X hf hZ2 hS2 (lv_sub hl [] rfl)

abbrev Q_Performance_lastTied (K : zK) (D : va_G) (ca : Nat → ClassId) (ad : Nat → Int → Nat → Nat) (L : List Nat) (r : Int) (F : zF) (B : zB) (A : Nat → Prop) : Array Value → State → Outcome → State → Prop := va_Qi (S := Unit) (fun p _ => p = iI r) (fun _ => zPo D ca ad lnC K.2 L F B A) A
def f_Performance_lastTied_77 (K : zK) (l5 : Int) (F : zF) (B : zB) : zO := some (l5, F, B)
set_option maxHeartbeats 4000000 in
set_option maxRecDepth 100000 in
theorem b_Performance_lastTied_77 {D : va_G} {ca : Nat → ClassId} {ad : Nat → Int → Nat → Nat} {L : List Nat} {aS vS : Nat → Nat} {A : Nat → Prop} {p : Program} {l : Launch} {e : Env} {s : State} {m : MethodId} {args : Array Value} {below : List Frame} {meth : Method} {c : Code} {K : zK} {r : Int} {F9 : zF} {B9 : zB} (X : zX D ca L aS vS A p s m args meth c prog_7_method_8_code 6 (Option.some Jvm.ClassFile.FieldType.int) "StaveHouse$Performance") {l5 : Int} {F : zF} {B : zB} {H : Heap} {locs : List Loc} {ls : Array Slot} (hf : f_Performance_lastTied_77 K l5 F B = some (r, F9, B9)) (hZ : zH D ca ad lnC K.2 L F B A H) (hS : va_S A s.heap H locs) (hl : lv_has ls 6 [(5, .int (iI l5))]) : W p l e ({ frames := 1, cells := 0, slots := 0, locals := 23 } : Room) s m args below meth c H locs 0 0 (MQ below (Q_Performance_lastTied K D ca ad L r F9 B9 A) args s 0 0 A) (F0 m 77 ls []) := by
  obtain ⟨hx, hb, hr, hml, hown, hts, hlk, hK, hA, hL, hX⟩ := id X
  replace hf : (some (l5, F, B)) = some (r, F9, B9) := hf
  refine lv_iload hx hb (D_21 W_prog_7_method_8_code_64 13 rfl rfl) (lv_at hl 0 rfl) ?_
  cases hf
  exact W.iret hx hb hr (fun t ht hW => ⟨⟨_, (), rfl, rfl, by rw [ht]; exact hZ, va_K.moved hW.alike hK⟩, hS.F ht⟩) hS.2.2 (D_172 W_prog_7_method_8_code_64 15 rfl rfl) hlk

def f_Performance_lastTied_28 (K : zK) : Nat → Int → Int → Int → Int → zF → zB → zO
  | 0, _, _, _, _, _, _ => none
  | n + 1, l5, l4, l3, l0, F, B => if 0 ≤ l0 ∧ l0 < K.2 4 then if r32 (l5 + 1) then if r32 (F 4 l0 6) then (if (F 4 l0 6) ≤ (l5 + 1) then f_Performance_lastTied_77 K l5 F B else if 0 ≤ l5 ∧ l5 < 200 then if 0 ≤ (B 4 l0 5 l5) ∧ (B 4 l0 5 l5) < K.2 1 then zbind (f_Event_has K (B 4 l0 5 l5) 1 F B) (fun r11 F11 B11 => if r32 r11 then (if r11 = 0 then f_Performance_lastTied_77 K l5 F11 B11 else if 0 ≤ (l5 + 1) ∧ (l5 + 1) < 200 then if 0 ≤ (B11 4 l0 5 (l5 + 1)) ∧ (B11 4 l0 5 (l5 + 1)) < K.2 1 then zbind (f_Event_hasPitch K (B11 4 l0 5 (l5 + 1)) l3 l4 F11 B11) (fun r16 F16 B16 => if r32 r16 then (if r16 = 0 then f_Performance_lastTied_77 K l5 F16 B16 else f_Performance_lastTied_28 K n (l5 + 1) l4 l3 l0 F16 B16) else none) else none else none) else none) else none else none) else none else none else none
set_option maxHeartbeats 4000000 in
set_option maxRecDepth 100000 in
theorem b_Performance_lastTied_28 {D : va_G} {ca : Nat → ClassId} {ad : Nat → Int → Nat → Nat} {L : List Nat} {aS vS : Nat → Nat} {A : Nat → Prop} {p : Program} {l : Launch} {e : Env} {s : State} {m : MethodId} {args : Array Value} {below : List Frame} {meth : Method} {c : Code} {K : zK} {r : Int} {F9 : zF} {B9 : zB} (X : zX D ca L aS vS A p s m args meth c prog_7_method_8_code 6 (Option.some Jvm.ClassFile.FieldType.int) "StaveHouse$Performance") : ∀ {n : Nat} {l5 : Int} {l4 : Int} {l3 : Int} {l0 : Int} {F : zF} {B : zB} {H : Heap} {locs : List Loc} {ls : Array Slot}, f_Performance_lastTied_28 K n l5 l4 l3 l0 F B = some (r, F9, B9) → zH D ca ad lnC K.2 L F B A H → va_S A s.heap H locs → lv_has ls 6 [(5, .int (iI l5)), (4, .int (iI l4)), (3, .int (iI l3)), (0, .ref (ad 4 l0 0))] → W p l e ({ frames := 1, cells := 0, slots := 0, locals := 23 } : Room) s m args below meth c H locs 0 0 (MQ below (Q_Performance_lastTied K D ca ad L r F9 B9 A) args s 0 0 A) (F0 m 28 ls []) := by
  obtain ⟨hx, hb, hr, hml, hown, hts, hlk, hK, hA, hL, hX⟩ := id X
  intro n
  induction n with
  | zero =>
    intros
    rename_i hf _ _ _
    cases hf
  | succ n ih =>
    intro l5 l4 l3 l0 F B H locs ls hf hZ hS hl
    replace hf : (if 0 ≤ l0 ∧ l0 < K.2 4 then if r32 (l5 + 1) then if r32 (F 4 l0 6) then (if (F 4 l0 6) ≤ (l5 + 1) then f_Performance_lastTied_77 K l5 F B else if 0 ≤ l5 ∧ l5 < 200 then if 0 ≤ (B 4 l0 5 l5) ∧ (B 4 l0 5 l5) < K.2 1 then zbind (f_Event_has K (B 4 l0 5 l5) 1 F B) (fun r11 F11 B11 => if r32 r11 then (if r11 = 0 then f_Performance_lastTied_77 K l5 F11 B11 else if 0 ≤ (l5 + 1) ∧ (l5 + 1) < 200 then if 0 ≤ (B11 4 l0 5 (l5 + 1)) ∧ (B11 4 l0 5 (l5 + 1)) < K.2 1 then zbind (f_Event_hasPitch K (B11 4 l0 5 (l5 + 1)) l3 l4 F11 B11) (fun r16 F16 B16 => if r32 r16 then (if r16 = 0 then f_Performance_lastTied_77 K l5 F16 B16 else f_Performance_lastTied_28 K n (l5 + 1) l4 l3 l0 F16 B16) else none) else none else none) else none) else none else none) else none else none else none) = some (r, F9, B9) := hf
    refine lv_iload hx hb (D_21 W_prog_7_method_8_code_0 28 rfl rfl) (lv_at hl 0 rfl) ?_
    refine lv_iconst (v := iI 1) hx hb (D_4 W_prog_7_method_8_code_0 30 rfl rfl) rfl ?_
    refine zadd hx hb (D_96 W_prog_7_method_8_code_0 31 rfl rfl) ?_
    refine lv_aload_n hx hb (D_42 W_prog_7_method_8_code_32 0 rfl rfl) rfl (lv_at hl 3 rfl) ?_
    obtain ⟨g5, hf⟩ := gif hf
    refine zget (ci := 4) (C := RX4) (T := TX4) (v := .int (iI (F 4 l0 6))) (k := 6) hx hb hts inW_4 hown hK hZ g5.1 g5.2 rfl (by decide) k_4_136 rfl (D_180 W_prog_7_method_8_code_32 1 rfl rfl rfl) ?_
    obtain ⟨g6, hf⟩ := gif hf
    obtain ⟨g7, hf⟩ := gif hf
    refine zge (tgt := 77) hx hb g6 g7 (D_162 W_prog_7_method_8_code_32 4 rfl rfl rfl) (by decide) (fun h8 => ?_) (fun h8 => ?_)
    · replace hf := gpos hf h8
      exact b_Performance_lastTied_77 X hf hZ hS (lv_sub hl [0] rfl)
    · replace hf := gneg hf h8
      refine lv_aload_n hx hb (D_42 W_prog_7_method_8_code_32 7 rfl rfl) rfl (lv_at hl 3 rfl) ?_
      refine zget (ci := 4) (C := RX4) (T := TX4) (v := .ref (ad 4 l0 (5 + 1))) (k := 5) hx hb hts inW_4 hown hK hZ g5.1 g5.2 rfl (by decide) k_4_131 rfl (D_180 W_prog_7_method_8_code_32 8 rfl rfl rfl) ?_
      refine lv_iload hx hb (D_21 W_prog_7_method_8_code_32 11 rfl rfl) (lv_at hl 0 rfl) ?_
      obtain ⟨g9, hf⟩ := gif hf
      refine zaldR (t := 1) (x := 7) (ci := 4) (k := 5) hx hb hK rfl rfl hZ g5.1 g5.2 rfl (Nat.le_of_ble_eq_true rfl) g9.1 g9.2 (D_50 W_prog_7_method_8_code_32 13 rfl rfl) ?_
      refine lv_iconst (v := iI 1) hx hb (D_4 W_prog_7_method_8_code_32 14 rfl rfl) rfl ?_
      obtain ⟨g10, hf⟩ := gif hf
      refine W.eq (g2 := F0 m 47 ls [.int (iI 1), .ref (ad 1 (B 4 l0 5 l5) 0)]) (by rw [zrf_pos (ad := ad) (t := 1) g10.1]; try rfl) ?_
      obtain ⟨r11, F11, B11, hc11, hf⟩ := gbind hf
      refine va_calli (va_runV (As := [.int (iI 1)]) (rest := []) ⟨hx, hb, hml, hown, hts⟩ (c_Event_has (l := l) hc11) (cwV 1 hts (gdV k_6_119 k_5_16 k_5_17 k_1_8 k_5_18) rfl rfl rfl (by decide +kernel) ⟨Nat.le_of_ble_eq_true rfl, Nat.le_of_ble_eq_true rfl⟩) (zPV X hZ hS (ci := 1) g10.1 g10.2 (r := (RX1, TX1, 14)) rfl [.int (iI 1)]) rfl rfl hl.1 rfl (lv_room (Nat.le_of_ble_eq_true rfl)) (D_182 W_prog_7_method_8_code_32 15 rfl rfl rfl) ⟨Nat.le_of_ble_eq_true rfl, Nat.le_of_ble_eq_true rfl⟩) hS (fun q _ h => zAin X hS q h) (zAin X hS) (fun p11 u11 t11 H11 locs11 ht11 hv11 hw11 hB11 hz11 hk11 hS11 => ?_)
      have hZ11 := zBack X ht11 hB11
      subst hw11
      obtain ⟨g12, hf⟩ := gif hf
      refine z0eq (tgt := 77) hx hb g12 (D_153 W_prog_7_method_8_code_32 18 rfl rfl rfl) (by decide) (fun h13 => ?_) (fun h13 => ?_)
      · replace hf := gpos hf h13
        exact b_Performance_lastTied_77 X hf hZ11 hS11 (lv_sub hl [0] rfl)
      · replace hf := gneg hf h13
        refine lv_aload_n hx hb (D_42 W_prog_7_method_8_code_32 21 rfl rfl) rfl (lv_at hl 3 rfl) ?_
        refine zget (ci := 4) (C := RX4) (T := TX4) (v := .ref (ad 4 l0 (5 + 1))) (k := 5) hx hb hts inW_4 hown hK hZ11 g5.1 g5.2 rfl (by decide) k_4_131 rfl (D_180 W_prog_7_method_8_code_32 22 rfl rfl rfl) ?_
        refine lv_iload hx hb (D_21 W_prog_7_method_8_code_32 25 rfl rfl) (lv_at hl 0 rfl) ?_
        refine lv_iconst (v := iI 1) hx hb (D_4 W_prog_7_method_8_code_32 27 rfl rfl) rfl ?_
        refine zadd hx hb (D_96 W_prog_7_method_8_code_32 28 rfl rfl) ?_
        obtain ⟨g14, hf⟩ := gif hf
        refine zaldR (t := 1) (x := 7) (ci := 4) (k := 5) hx hb hK rfl rfl hZ11 g5.1 g5.2 rfl (Nat.le_of_ble_eq_true rfl) g14.1 g14.2 (D_50 W_prog_7_method_8_code_32 29 rfl rfl) ?_
        refine lv_iload_n hx hb (D_29 W_prog_7_method_8_code_32 30 rfl rfl) rfl (lv_at hl 2 rfl) ?_
        refine lv_iload hx hb (D_21 W_prog_7_method_8_code_32 31 rfl rfl) (lv_at hl 1 rfl) ?_
        obtain ⟨g15, hf⟩ := gif hf
        refine W.eq (g2 := F0 m 65 ls [.int (iI l4), .int (iI l3), .ref (ad 1 (B11 4 l0 5 (l5 + 1)) 0)]) (by rw [zrf_pos (ad := ad) (t := 1) g15.1]; try rfl) ?_
        obtain ⟨r16, F16, B16, hc16, hf⟩ := gbind hf
        refine va_calli (va_runV (As := [.int (iI l3), .int (iI l4)]) (rest := []) ⟨hx, hb, hml, hown, hts⟩ (c_Event_hasPitch (l := l) hc16) (cwV 2 hts (gdV k_6_149 k_5_46 k_5_47 k_1_8 k_5_48) rfl rfl rfl (by decide +kernel) ⟨Nat.le_of_ble_eq_true rfl, Nat.le_of_ble_eq_true rfl⟩) (zPV X hZ11 hS11 (ci := 1) g15.1 g15.2 (r := (RX1, TX1, 14)) rfl [.int (iI l3), .int (iI l4)]) rfl rfl hl.1 rfl (lv_room (Nat.le_of_ble_eq_true rfl)) (D_182 W_prog_7_method_8_code_64 1 rfl rfl rfl) ⟨Nat.le_of_ble_eq_true rfl, Nat.le_of_ble_eq_true rfl⟩) hS11 (fun q _ h => zAin X hS11 q h) (zAin X hS11) (fun p16 u16 t16 H16 locs16 ht16 hv16 hw16 hB16 hz16 hk16 hS16 => ?_)
        have hZ16 := zBack X ht16 hB16
        subst hw16
        obtain ⟨g17, hf⟩ := gif hf
        refine z0eq (tgt := 77) hx hb g17 (D_153 W_prog_7_method_8_code_64 4 rfl rfl rfl) (by decide) (fun h18 => ?_) (fun h18 => ?_)
        · replace hf := gpos hf h18
          exact b_Performance_lastTied_77 X hf hZ16 hS16 (lv_sub hl [0] rfl)
        · replace hf := gneg hf h18
          refine lv_iinc (v := iI (l5 + 1)) (lv' := [(5, .int (iI (l5 + 1))), (4, .int (iI l4)), (3, .int (iI l3)), (0, .ref (ad 4 l0 0))]) hx hb d_7_8_71 hl (k := 0) rfl (iI_add _ 1) (by decide) rfl (fun ls hl => ?_)
          refine lv_goto (tgt := 28) hx hb (D_167 W_prog_7_method_8_code_64 10 rfl rfl rfl) (by decide) ?_
          exact ih hf hZ16 hS16 (lv_sub hl [0, 1, 2, 3] rfl)

def f_Performance_lastTied (K : zK) (l0 : Int) (l1 : Int) (l2 : Int) (F : zF) (B : zB) : zO := if 0 ≤ l0 ∧ l0 < K.2 4 then if 0 ≤ l1 ∧ l1 < 200 then if 0 ≤ (B 4 l0 5 l1) ∧ (B 4 l0 5 l1) < K.2 1 then if 0 ≤ l2 ∧ l2 < 6 then f_Performance_lastTied_28 K K.1 l1 (B 1 (B 4 l0 5 l1) 13 l2) (B 1 (B 4 l0 5 l1) 12 l2) l0 F B else none else none else none else none
set_option maxHeartbeats 4000000 in
set_option maxRecDepth 100000 in
theorem c_Performance_lastTied {l : Launch} {D : va_G} {ca : Nat → ClassId} {ad : Nat → Int → Nat → Nat} {L : List Nat} {aS vS : Nat → Nat} {sz : Nat} {K : zK}  {l0 : Int} {l1 : Int} {l2 : Int} {F F9 : zF} {B B9 : zB} {r : Int} (hf : f_Performance_lastTied K l0 l1 l2 F B = some (r, F9, B9)) : Met l ({ cls := "StaveHouse$Performance", name := "lastTied", desc := "(LStaveHouse$Part;II)I" } : Jvm.MethodName) (Cond.code ({ cls := "StaveHouse$Performance", name := "lastTied", desc := "(LStaveHouse$Part;II)I" } : Jvm.MethodName) prog_7_method_8_code 6 (Option.some Jvm.ClassFile.FieldType.int) :: wAll) ({ frames := 1, cells := 0, slots := 0, locals := 23 } : Room) (va_Pc [.ref (ad 4 l0 0), .int (iI l1), .int (iI l2)] (zPre D ca ad lnC K.2 L aS vS F B sz)) (Q_Performance_lastTied K D ca ad L r F9 B9 (zA L sz)) 0 0 (zA L sz) := by
  refine zMet (Qc := Q_Performance_lastTied K D ca ad L r F9 B9) (lv := [(0, .ref (ad 4 l0 0)), (1, .int (iI l1)), (2, .int (iI l2))]) (by decide) (Nat.le_of_ble_eq_true rfl) rfl (fun A p e s m below meth c ls X hZ hS hl => ?_)
  obtain ⟨hx, hb, hr, hml, hown, hts, hlk, hK, hA, hL, hX⟩ := id X
  replace hf : (if 0 ≤ l0 ∧ l0 < K.2 4 then if 0 ≤ l1 ∧ l1 < 200 then if 0 ≤ (B 4 l0 5 l1) ∧ (B 4 l0 5 l1) < K.2 1 then if 0 ≤ l2 ∧ l2 < 6 then f_Performance_lastTied_28 K K.1 l1 (B 1 (B 4 l0 5 l1) 13 l2) (B 1 (B 4 l0 5 l1) 12 l2) l0 F B else none else none else none else none) = some (r, F9, B9) := hf
  refine lv_aload_n hx hb (D_42 W_prog_7_method_8_code_0 0 rfl rfl) rfl (lv_at hl 0 rfl) ?_
  obtain ⟨g1, hf⟩ := gif hf
  refine zget (ci := 4) (C := RX4) (T := TX4) (v := .ref (ad 4 l0 (5 + 1))) (k := 5) hx hb hts inW_4 hown hK hZ g1.1 g1.2 rfl (by decide) k_4_131 rfl (D_180 W_prog_7_method_8_code_0 1 rfl rfl rfl) ?_
  refine lv_iload_n hx hb (D_27 W_prog_7_method_8_code_0 4 rfl rfl) rfl (lv_at hl 1 rfl) ?_
  obtain ⟨g2, hf⟩ := gif hf
  refine zaldR (t := 1) (x := 7) (ci := 4) (k := 5) hx hb hK rfl rfl hZ g1.1 g1.2 rfl (Nat.le_of_ble_eq_true rfl) g2.1 g2.2 (D_50 W_prog_7_method_8_code_0 5 rfl rfl) ?_
  obtain ⟨g3, hf⟩ := gif hf
  refine zunrf g3.1 ?_
  refine zget (ci := 1) (C := RX1) (T := TX1) (v := .ref (ad 1 (B 4 l0 5 l1) (12 + 1))) (k := 12) hx hb hts inW_1 hown hK hZ g3.1 g3.2 rfl (by decide) k_2_59 rfl (D_180 W_prog_7_method_8_code_0 6 rfl rfl rfl) ?_
  refine lv_iload_n hx hb (D_28 W_prog_7_method_8_code_0 9 rfl rfl) rfl (lv_at hl 2 rfl) ?_
  obtain ⟨g4, hf⟩ := gif hf
  refine zald (ci := 1) (k := 12) hx hb hK rfl hZ g3.1 g3.2 rfl (Nat.le_of_ble_eq_true rfl) g4.1 g4.2 (D_46 W_prog_7_method_8_code_0 10 rfl rfl) ?_
  refine lv_istore_n (lv' := [(3, .int (iI (B 1 (B 4 l0 5 l1) 12 l2))), (0, .ref (ad 4 l0 0)), (1, .int (iI l1)), (2, .int (iI l2))]) hx hb (D_62 W_prog_7_method_8_code_0 11 rfl rfl) rfl hl (by decide) rfl (fun ls hl => ?_)
  refine lv_aload_n hx hb (D_42 W_prog_7_method_8_code_0 12 rfl rfl) rfl (lv_at hl 1 rfl) ?_
  refine zget (ci := 4) (C := RX4) (T := TX4) (v := .ref (ad 4 l0 (5 + 1))) (k := 5) hx hb hts inW_4 hown hK hZ g1.1 g1.2 rfl (by decide) k_4_131 rfl (D_180 W_prog_7_method_8_code_0 13 rfl rfl rfl) ?_
  refine lv_iload_n hx hb (D_27 W_prog_7_method_8_code_0 16 rfl rfl) rfl (lv_at hl 2 rfl) ?_
  refine zaldR (t := 1) (x := 7) (ci := 4) (k := 5) hx hb hK rfl rfl hZ g1.1 g1.2 rfl (Nat.le_of_ble_eq_true rfl) g2.1 g2.2 (D_50 W_prog_7_method_8_code_0 17 rfl rfl) ?_
  refine zunrf g3.1 ?_
  refine zget (ci := 1) (C := RX1) (T := TX1) (v := .ref (ad 1 (B 4 l0 5 l1) (13 + 1))) (k := 13) hx hb hts inW_1 hown hK hZ g3.1 g3.2 rfl (by decide) k_2_64 rfl (D_180 W_prog_7_method_8_code_0 18 rfl rfl rfl) ?_
  refine lv_iload_n hx hb (D_28 W_prog_7_method_8_code_0 21 rfl rfl) rfl (lv_at hl 3 rfl) ?_
  refine zald (ci := 1) (k := 13) hx hb hK rfl hZ g3.1 g3.2 rfl (Nat.le_of_ble_eq_true rfl) g4.1 g4.2 (D_46 W_prog_7_method_8_code_0 22 rfl rfl) ?_
  refine lv_istore (lv' := [(4, .int (iI (B 1 (B 4 l0 5 l1) 13 l2))), (3, .int (iI (B 1 (B 4 l0 5 l1) 12 l2))), (0, .ref (ad 4 l0 0)), (1, .int (iI l1)), (2, .int (iI l2))]) hx hb (D_54 W_prog_7_method_8_code_0 23 rfl rfl) hl (by decide) rfl (fun ls hl => ?_)
  refine lv_iload_n hx hb (D_27 W_prog_7_method_8_code_0 25 rfl rfl) rfl (lv_at hl 3 rfl) ?_
  refine lv_istore (lv' := [(5, .int (iI l1)), (4, .int (iI (B 1 (B 4 l0 5 l1) 13 l2))), (3, .int (iI (B 1 (B 4 l0 5 l1) 12 l2))), (0, .ref (ad 4 l0 0)), (1, .int (iI l1)), (2, .int (iI l2))]) hx hb (D_54 W_prog_7_method_8_code_0 26 rfl rfl) hl (by decide) rfl (fun ls hl => ?_)
  exact b_Performance_lastTied_28 X hf hZ hS (lv_sub hl [0, 1, 2, 3] rfl)

abbrev Q_Performance_sounded (K : zK) (D : va_G) (ca : Nat → ClassId) (ad : Nat → Int → Nat → Nat) (L : List Nat) (r : Int) (F : zF) (B : zB) (A : Nat → Prop) : Array Value → State → Outcome → State → Prop := va_Qi (S := Unit) (fun p _ => p = iI r) (fun _ => zPo D ca ad lnC K.2 L F B A) A
def f_Performance_sounded_43 (K : zK) (s0 : Int) (F : zF) (B : zB) : zO := some (s0, F, B)
set_option maxHeartbeats 4000000 in
set_option maxRecDepth 100000 in
theorem b_Performance_sounded_43 {D : va_G} {ca : Nat → ClassId} {ad : Nat → Int → Nat → Nat} {L : List Nat} {aS vS : Nat → Nat} {A : Nat → Prop} {p : Program} {l : Launch} {e : Env} {s : State} {m : MethodId} {args : Array Value} {below : List Frame} {meth : Method} {c : Code} {K : zK} {r : Int} {F9 : zF} {B9 : zB} (X : zX D ca L aS vS A p s m args meth c prog_7_method_9_code 2 (Option.some Jvm.ClassFile.FieldType.int) "StaveHouse$Performance") {s0 : Int} {F : zF} {B : zB} {H : Heap} {locs : List Loc} {ls : Array Slot} (hf : f_Performance_sounded_43 K s0 F B = some (r, F9, B9)) (hZ : zH D ca ad lnC K.2 L F B A H) (hS : va_S A s.heap H locs) (hl : lv_has ls 2 []) : W p l e ({ frames := 1, cells := 0, slots := 0, locals := 21 } : Room) s m args below meth c H locs 0 0 (MQ below (Q_Performance_sounded K D ca ad L r F9 B9 A) args s 0 0 A) (F0 m 43 ls [.int (iI s0)]) := by
  obtain ⟨hx, hb, hr, hml, hown, hts, hlk, hK, hA, hL, hX⟩ := id X
  replace hf : (some (s0, F, B)) = some (r, F9, B9) := hf
  cases hf
  exact W.iret hx hb hr (fun t ht hW => ⟨⟨_, (), rfl, rfl, by rw [ht]; exact hZ, va_K.moved hW.alike hK⟩, hS.F ht⟩) hS.2.2 (D_172 W_prog_7_method_9_code_32 11 rfl rfl) hlk

def f_Performance_sounded_33 (K : zK) (l1 : Int) (F : zF) (B : zB) : zO := f_Performance_sounded_43 K l1 F B
set_option maxHeartbeats 4000000 in
set_option maxRecDepth 100000 in
theorem b_Performance_sounded_33 {D : va_G} {ca : Nat → ClassId} {ad : Nat → Int → Nat → Nat} {L : List Nat} {aS vS : Nat → Nat} {A : Nat → Prop} {p : Program} {l : Launch} {e : Env} {s : State} {m : MethodId} {args : Array Value} {below : List Frame} {meth : Method} {c : Code} {K : zK} {r : Int} {F9 : zF} {B9 : zB} (X : zX D ca L aS vS A p s m args meth c prog_7_method_9_code 2 (Option.some Jvm.ClassFile.FieldType.int) "StaveHouse$Performance") {l1 : Int} {F : zF} {B : zB} {H : Heap} {locs : List Loc} {ls : Array Slot} (hf : f_Performance_sounded_33 K l1 F B = some (r, F9, B9)) (hZ : zH D ca ad lnC K.2 L F B A H) (hS : va_S A s.heap H locs) (hl : lv_has ls 2 [(1, .int (iI l1))]) : W p l e ({ frames := 1, cells := 0, slots := 0, locals := 21 } : Room) s m args below meth c H locs 0 0 (MQ below (Q_Performance_sounded K D ca ad L r F9 B9 A) args s 0 0 A) (F0 m 33 ls []) := by
  obtain ⟨hx, hb, hr, hml, hown, hts, hlk, hK, hA, hL, hX⟩ := id X
  replace hf : (f_Performance_sounded_43 K l1 F B) = some (r, F9, B9) := hf
  refine lv_iload_n hx hb (D_27 W_prog_7_method_9_code_32 1 rfl rfl) rfl (lv_at hl 0 rfl) ?_
  refine lv_goto (tgt := 43) hx hb (D_167 W_prog_7_method_9_code_32 2 rfl rfl rfl) (by decide) ?_
  exact b_Performance_sounded_43 X hf hZ hS (lv_sub hl [] rfl)

def f_Performance_sounded (K : zK) (l0 : Int) (l1 : Int) (F : zF) (B : zB) : zO := if 0 ≤ l0 ∧ l0 < K.2 1 then zbind (f_Event_has K l0 8 F B) (fun r2 F2 B2 => if r32 r2 then (if r2 = 0 then zbind (f_Event_has K l0 32 F2 B2) (fun r5 F5 B5 => if r32 r5 then (if r5 = 0 then if r32 (F5 1 l0 11) then (if (F5 1 l0 11) = 0 then f_Performance_sounded_43 K (l1 - (zdv l1 8)) F5 B5 else f_Performance_sounded_33 K l1 F5 B5) else none else f_Performance_sounded_33 K l1 F5 B5) else none) else if r32 (zdv l1 2) then some (zmax 1 (zdv l1 2), F2, B2) else none) else none) else none
set_option maxHeartbeats 4000000 in
set_option maxRecDepth 100000 in
theorem c_Performance_sounded {l : Launch} {D : va_G} {ca : Nat → ClassId} {ad : Nat → Int → Nat → Nat} {L : List Nat} {aS vS : Nat → Nat} {sz : Nat} {K : zK}  {l0 : Int} {l1 : Int} {F F9 : zF} {B B9 : zB} {r : Int} (hf : f_Performance_sounded K l0 l1 F B = some (r, F9, B9)) : Met l ({ cls := "StaveHouse$Performance", name := "sounded", desc := "(LStaveHouse$Event;I)I" } : Jvm.MethodName) (Cond.code ({ cls := "StaveHouse$Performance", name := "sounded", desc := "(LStaveHouse$Event;I)I" } : Jvm.MethodName) prog_7_method_9_code 2 (Option.some Jvm.ClassFile.FieldType.int) :: wAll) ({ frames := 1, cells := 0, slots := 0, locals := 21 } : Room) (va_Pc [.ref (ad 1 l0 0), .int (iI l1)] (zPre D ca ad lnC K.2 L aS vS F B sz)) (Q_Performance_sounded K D ca ad L r F9 B9 (zA L sz)) 0 0 (zA L sz) := by
  refine zMet (Qc := Q_Performance_sounded K D ca ad L r F9 B9) (lv := [(0, .ref (ad 1 l0 0)), (1, .int (iI l1))]) (by decide) (Nat.le_of_ble_eq_true rfl) rfl (fun A p e s m below meth c ls X hZ hS hl => ?_)
  obtain ⟨hx, hb, hr, hml, hown, hts, hlk, hK, hA, hL, hX⟩ := id X
  replace hf : (if 0 ≤ l0 ∧ l0 < K.2 1 then zbind (f_Event_has K l0 8 F B) (fun r2 F2 B2 => if r32 r2 then (if r2 = 0 then zbind (f_Event_has K l0 32 F2 B2) (fun r5 F5 B5 => if r32 r5 then (if r5 = 0 then if r32 (F5 1 l0 11) then (if (F5 1 l0 11) = 0 then f_Performance_sounded_43 K (l1 - (zdv l1 8)) F5 B5 else f_Performance_sounded_33 K l1 F5 B5) else none else f_Performance_sounded_33 K l1 F5 B5) else none) else if r32 (zdv l1 2) then some (zmax 1 (zdv l1 2), F2, B2) else none) else none) else none) = some (r, F9, B9) := hf
  refine lv_aload_n hx hb (D_42 W_prog_7_method_9_code_0 0 rfl rfl) rfl (lv_at hl 0 rfl) ?_
  refine lv_bipush (v := iI 8) hx hb (D_16 W_prog_7_method_9_code_0 1 rfl rfl rfl) (by decide) ?_
  obtain ⟨g1, hf⟩ := gif hf
  obtain ⟨r2, F2, B2, hc2, hf⟩ := gbind hf
  refine va_calli (va_runV (As := [.int (iI 8)]) (rest := []) ⟨hx, hb, hml, hown, hts⟩ (c_Event_has (l := l) hc2) (cwV 1 hts (gdV k_6_119 k_5_16 k_5_17 k_1_8 k_5_18) rfl rfl rfl (by decide +kernel) ⟨Nat.le_of_ble_eq_true rfl, Nat.le_of_ble_eq_true rfl⟩) (zPV X hZ hS (ci := 1) g1.1 g1.2 (r := (RX1, TX1, 14)) rfl [.int (iI 8)]) rfl rfl hl.1 rfl (lv_room (Nat.le_of_ble_eq_true rfl)) (D_182 W_prog_7_method_9_code_0 3 rfl rfl rfl) ⟨Nat.le_of_ble_eq_true rfl, Nat.le_of_ble_eq_true rfl⟩) hS (fun q _ h => zAin X hS q h) (zAin X hS) (fun p2 u2 t2 H2 locs2 ht2 hv2 hw2 hB2 hz2 hk2 hS2 => ?_)
  have hZ2 := zBack X ht2 hB2
  subst hw2
  obtain ⟨g3, hf⟩ := gif hf
  refine z0eq (tgt := 17) hx hb g3 (D_153 W_prog_7_method_9_code_0 6 rfl rfl rfl) (by decide) (fun h4 => ?_) (fun h4 => ?_)
  · replace hf := gpos hf h4
    refine lv_aload_n hx hb (D_42 W_prog_7_method_9_code_0 17 rfl rfl) rfl (lv_at hl 0 rfl) ?_
    refine lv_bipush (v := iI 32) hx hb (D_16 W_prog_7_method_9_code_0 18 rfl rfl rfl) (by decide) ?_
    obtain ⟨r5, F5, B5, hc5, hf⟩ := gbind hf
    refine va_calli (va_runV (As := [.int (iI 32)]) (rest := []) ⟨hx, hb, hml, hown, hts⟩ (c_Event_has (l := l) hc5) (cwV 1 hts (gdV k_6_119 k_5_16 k_5_17 k_1_8 k_5_18) rfl rfl rfl (by decide +kernel) ⟨Nat.le_of_ble_eq_true rfl, Nat.le_of_ble_eq_true rfl⟩) (zPV X hZ2 hS2 (ci := 1) g1.1 g1.2 (r := (RX1, TX1, 14)) rfl [.int (iI 32)]) rfl rfl hl.1 rfl (lv_room (Nat.le_of_ble_eq_true rfl)) (D_182 W_prog_7_method_9_code_0 20 rfl rfl rfl) ⟨Nat.le_of_ble_eq_true rfl, Nat.le_of_ble_eq_true rfl⟩) hS2 (fun q _ h => zAin X hS2 q h) (zAin X hS2) (fun p5 u5 t5 H5 locs5 ht5 hv5 hw5 hB5 hz5 hk5 hS5 => ?_)
    have hZ5 := zBack X ht5 hB5
    subst hw5
    obtain ⟨g6, hf⟩ := gif hf
    refine z0ne (tgt := 33) hx hb g6 (D_154 W_prog_7_method_9_code_0 23 rfl rfl rfl) (by decide) (fun h7 => ?_) (fun h7 => ?_)
    · replace hf := gneg hf h7
      exact b_Performance_sounded_33 X hf hZ5 hS5 (lv_sub hl [1] rfl)
    · replace hf := gpos hf h7
      refine lv_aload_n hx hb (D_42 W_prog_7_method_9_code_0 26 rfl rfl) rfl (lv_at hl 0 rfl) ?_
      refine zget (ci := 1) (C := RX1) (T := TX1) (v := .int (iI (F5 1 l0 11))) (k := 11) hx hb hts inW_1 hown hK hZ5 g1.1 g1.2 rfl (by decide) k_2_56 rfl (D_180 W_prog_7_method_9_code_0 27 rfl rfl rfl) ?_
      obtain ⟨g8, hf⟩ := gif hf
      refine z0eq (tgt := 37) hx hb g8 (D_153 W_prog_7_method_9_code_0 30 rfl rfl rfl) (by decide) (fun h9 => ?_) (fun h9 => ?_)
      · replace hf := gpos hf h9
        refine lv_iload_n hx hb (D_27 W_prog_7_method_9_code_32 5 rfl rfl) rfl (lv_at hl 1 rfl) ?_
        refine lv_iload_n hx hb (D_27 W_prog_7_method_9_code_32 6 rfl rfl) rfl (lv_at hl 1 rfl) ?_
        refine lv_bipush (v := iI 8) hx hb (D_16 W_prog_7_method_9_code_32 7 rfl rfl rfl) (by decide) ?_
        refine zdv_r hx hb (by decide) (D_108 W_prog_7_method_9_code_32 9 rfl rfl) ?_
        refine zsub hx hb (D_100 W_prog_7_method_9_code_32 10 rfl rfl) ?_
        exact b_Performance_sounded_43 X hf hZ5 hS5 (lv_sub hl [] rfl)
      · replace hf := gneg hf h9
        exact b_Performance_sounded_33 X hf hZ5 hS5 (lv_sub hl [1] rfl)
  · replace hf := gneg hf h4
    refine lv_iconst (v := iI 1) hx hb (D_4 W_prog_7_method_9_code_0 9 rfl rfl) rfl ?_
    refine lv_iload_n hx hb (D_27 W_prog_7_method_9_code_0 10 rfl rfl) rfl (lv_at hl 1 rfl) ?_
    refine lv_iconst (v := iI 2) hx hb (D_5 W_prog_7_method_9_code_0 11 rfl rfl) rfl ?_
    refine zdv_r hx hb (by decide) (D_108 W_prog_7_method_9_code_0 12 rfl rfl) ?_
    obtain ⟨g10, hf⟩ := gif hf
    refine va_mmax hx hb (by rw [hml]; exact hl.1.symm) hown (hts _ k_6_153) (hts _ k_1_39) (hts _ k_1_3) (hts _ k_1_40) (Nat.le_of_ble_eq_true rfl) (Nat.le_of_ble_eq_true rfl) (Nat.le_of_ble_eq_true rfl) (Nat.le_of_ble_eq_true rfl) (D_184 W_prog_7_method_9_code_0 13 rfl rfl rfl) ?_
    rw [zmax_e (by decide) g10]
    cases hf
    exact W.iret hx hb hr (fun t ht hW => ⟨⟨_, (), rfl, rfl, by rw [ht]; exact hZ2, va_K.moved hW.alike hK⟩, hS2.F ht⟩) hS2.2.2 (D_172 W_prog_7_method_9_code_0 16 rfl rfl) hlk

abbrev Q_Performance_keyHeard (K : zK) (D : va_G) (ca : Nat → ClassId) (ad : Nat → Int → Nat → Nat) (L : List Nat) (r : Int) (F : zF) (B : zB) (A : Nat → Prop) : Array Value → State → Outcome → State → Prop := va_Qi (S := Unit) (fun p _ => p = iI r) (fun _ => zPo D ca ad lnC K.2 L F B A) A
def f_Performance_keyHeard_186 (rec99 : Int → Int → Int → Int → zF → zB → zO) (K : zK) (l4 : Int) (l2 : Int) (l1 : Int) (l0 : Int) (F : zF) (B : zB) : zO := rec99 (l4 + 1) l2 l1 l0 F B
set_option maxHeartbeats 4000000 in
set_option maxRecDepth 100000 in
theorem b_Performance_keyHeard_186 {D : va_G} {ca : Nat → ClassId} {ad : Nat → Int → Nat → Nat} {L : List Nat} {aS vS : Nat → Nat} {A : Nat → Prop} {p : Program} {l : Launch} {e : Env} {s : State} {m : MethodId} {args : Array Value} {below : List Frame} {meth : Method} {c : Code} {K : zK} {r : Int} {F9 : zF} {B9 : zB} (X : zX D ca L aS vS A p s m args meth c prog_7_method_16_code 9 (Option.some Jvm.ClassFile.FieldType.int) "StaveHouse$Performance") {rec99 : Int → Int → Int → Int → zF → zB → zO} (hrec99 : ∀ {l4 : Int} {l2 : Int} {l1 : Int} {l0 : Int} {F : zF} {B : zB} {H : Heap} {locs : List Loc} {ls : Array Slot}, rec99 l4 l2 l1 l0 F B = some (r, F9, B9) → zH D ca ad lnC K.2 L F B A H → va_S A s.heap H locs → lv_has ls 9 [(4, .int (iI l4)), (2, .long (lI l2)), (1, .int (iI l1)), (0, .ref (ad 5 l0 0))] → W p l e ({ frames := 1, cells := 0, slots := 0, locals := 22 } : Room) s m args below meth c H locs 0 0 (MQ below (Q_Performance_keyHeard K D ca ad L r F9 B9 A) args s 0 0 A) (F0 m 99 ls [])) {l4 : Int} {l2 : Int} {l1 : Int} {l0 : Int} {F : zF} {B : zB} {H : Heap} {locs : List Loc} {ls : Array Slot} (hf : f_Performance_keyHeard_186 rec99 K l4 l2 l1 l0 F B = some (r, F9, B9)) (hZ : zH D ca ad lnC K.2 L F B A H) (hS : va_S A s.heap H locs) (hl : lv_has ls 9 [(4, .int (iI l4)), (2, .long (lI l2)), (1, .int (iI l1)), (0, .ref (ad 5 l0 0))]) : W p l e ({ frames := 1, cells := 0, slots := 0, locals := 22 } : Room) s m args below meth c H locs 0 0 (MQ below (Q_Performance_keyHeard K D ca ad L r F9 B9 A) args s 0 0 A) (F0 m 186 ls []) := by
  obtain ⟨hx, hb, hr, hml, hown, hts, hlk, hK, hA, hL, hX⟩ := id X
  replace hf : (rec99 (l4 + 1) l2 l1 l0 F B) = some (r, F9, B9) := hf
  refine lv_iinc (v := iI (l4 + 1)) (lv' := [(4, .int (iI (l4 + 1))), (2, .long (lI l2)), (1, .int (iI l1)), (0, .ref (ad 5 l0 0))]) hx hb d_7_16_186 hl (k := 0) rfl (iI_add _ 1) (by decide) rfl (fun ls hl => ?_)
  refine lv_goto (tgt := 99) hx hb (D_167 W_prog_7_method_16_code_160 29 rfl rfl rfl) (by decide) ?_
  exact hrec99 hf hZ hS (lv_sub hl [0, 1, 2, 3] rfl)

def f_Performance_keyHeard_162 (rec99 : Int → Int → Int → Int → zF → zB → zO) (rec112 : Int → Int → Int → Int → Int → Int → zF → zB → zO) (K : zK) (l7 : Int) (l4 : Int) (l2 : Int) (l1 : Int) (l0 : Int) (s0 : Int) (s1 : Int) (s2 : Int) (F : zF) (B : zB) : zO := if r32 s2 then rec112 (l7 + 1) (s0 + (s1 * s2)) l4 l2 l1 l0 F B else none
set_option maxHeartbeats 4000000 in
set_option maxRecDepth 100000 in
theorem b_Performance_keyHeard_162 {D : va_G} {ca : Nat → ClassId} {ad : Nat → Int → Nat → Nat} {L : List Nat} {aS vS : Nat → Nat} {A : Nat → Prop} {p : Program} {l : Launch} {e : Env} {s : State} {m : MethodId} {args : Array Value} {below : List Frame} {meth : Method} {c : Code} {K : zK} {r : Int} {F9 : zF} {B9 : zB} (X : zX D ca L aS vS A p s m args meth c prog_7_method_16_code 9 (Option.some Jvm.ClassFile.FieldType.int) "StaveHouse$Performance") {rec99 : Int → Int → Int → Int → zF → zB → zO} {rec112 : Int → Int → Int → Int → Int → Int → zF → zB → zO} (hrec99 : ∀ {l4 : Int} {l2 : Int} {l1 : Int} {l0 : Int} {F : zF} {B : zB} {H : Heap} {locs : List Loc} {ls : Array Slot}, rec99 l4 l2 l1 l0 F B = some (r, F9, B9) → zH D ca ad lnC K.2 L F B A H → va_S A s.heap H locs → lv_has ls 9 [(4, .int (iI l4)), (2, .long (lI l2)), (1, .int (iI l1)), (0, .ref (ad 5 l0 0))] → W p l e ({ frames := 1, cells := 0, slots := 0, locals := 22 } : Room) s m args below meth c H locs 0 0 (MQ below (Q_Performance_keyHeard K D ca ad L r F9 B9 A) args s 0 0 A) (F0 m 99 ls [])) (hrec112 : ∀ {l7 : Int} {l5 : Int} {l4 : Int} {l2 : Int} {l1 : Int} {l0 : Int} {F : zF} {B : zB} {H : Heap} {locs : List Loc} {ls : Array Slot}, rec112 l7 l5 l4 l2 l1 l0 F B = some (r, F9, B9) → zH D ca ad lnC K.2 L F B A H → va_S A s.heap H locs → lv_has ls 9 [(7, .int (iI l7)), (5, .long (lI l5)), (4, .int (iI l4)), (2, .long (lI l2)), (1, .int (iI l1)), (0, .ref (ad 5 l0 0))] → W p l e ({ frames := 1, cells := 0, slots := 0, locals := 22 } : Room) s m args below meth c H locs 0 0 (MQ below (Q_Performance_keyHeard K D ca ad L r F9 B9 A) args s 0 0 A) (F0 m 112 ls [])) {l7 : Int} {l4 : Int} {l2 : Int} {l1 : Int} {l0 : Int} {s0 : Int} {s1 : Int} {s2 : Int} {F : zF} {B : zB} {H : Heap} {locs : List Loc} {ls : Array Slot} (hf : f_Performance_keyHeard_162 rec99 rec112 K l7 l4 l2 l1 l0 s0 s1 s2 F B = some (r, F9, B9)) (hZ : zH D ca ad lnC K.2 L F B A H) (hS : va_S A s.heap H locs) (hl : lv_has ls 9 [(7, .int (iI l7)), (4, .int (iI l4)), (2, .long (lI l2)), (1, .int (iI l1)), (0, .ref (ad 5 l0 0))]) : W p l e ({ frames := 1, cells := 0, slots := 0, locals := 22 } : Room) s m args below meth c H locs 0 0 (MQ below (Q_Performance_keyHeard K D ca ad L r F9 B9 A) args s 0 0 A) (F0 m 162 ls [.int (iI s2), .long (lI s1), .long (lI s0)]) := by
  obtain ⟨hx, hb, hr, hml, hown, hts, hlk, hK, hA, hL, hX⟩ := id X
  replace hf : (if r32 s2 then rec112 (l7 + 1) (s0 + (s1 * s2)) l4 l2 l1 l0 F B else none) = some (r, F9, B9) := hf
  obtain ⟨g34, hf⟩ := gif hf
  refine zi2l hx hb g34 (D_133 W_prog_7_method_16_code_160 2 rfl rfl) ?_
  refine zlmul hx hb (D_105 W_prog_7_method_16_code_160 3 rfl rfl) ?_
  refine zladd hx hb (D_97 W_prog_7_method_16_code_160 4 rfl rfl) ?_
  refine lv_lstore (lv' := [(5, .long (lI (s0 + (s1 * s2)))), (7, .int (iI l7)), (4, .int (iI l4)), (2, .long (lI l2)), (1, .int (iI l1)), (0, .ref (ad 5 l0 0))]) hx hb (D_55 W_prog_7_method_16_code_160 5 rfl rfl) hl (by decide) rfl (fun ls hl => ?_)
  refine lv_iinc (v := iI (l7 + 1)) (lv' := [(7, .int (iI (l7 + 1))), (5, .long (lI (s0 + (s1 * s2)))), (4, .int (iI l4)), (2, .long (lI l2)), (1, .int (iI l1)), (0, .ref (ad 5 l0 0))]) hx hb d_7_16_167 hl (k := 1) rfl (iI_add _ 1) (by decide) rfl (fun ls hl => ?_)
  refine lv_goto (tgt := 112) hx hb (D_167 W_prog_7_method_16_code_160 10 rfl rfl rfl) (by decide) ?_
  exact hrec112 hf hZ hS (lv_sub hl [0, 1, 2, 3, 4, 5] rfl)

def f_Performance_keyHeard_112 (rec99 : Int → Int → Int → Int → zF → zB → zO) (K : zK) : Nat → Int → Int → Int → Int → Int → Int → zF → zB → zO
  | 0, _, _, _, _, _, _, _, _ => none
  | n + 1, l7, l5, l4, l2, l1, l0, F, B => if r32 l7 then (if 12 ≤ l7 then if r64 l5 then if r64 l2 then (if (zcmp l5 l2) ≤ 0 then f_Performance_keyHeard_186 rec99 K l4 l2 l1 l0 F B else f_Performance_keyHeard_186 rec99 K l4 l5 l4 l0 F B) else none else none else zbind (f_Math_floorMod K (l7 - l4) 12 F B) (fun r26 F26 B26 => if 0 ≤ l0 ∧ l0 < K.2 5 then if 0 ≤ l7 ∧ l7 < 12 then if r32 l4 then (if 12 ≤ l4 then if 0 ≤ r26 ∧ r26 < ztl 12 then f_Performance_keyHeard_162 rec99 (f_Performance_keyHeard_112 rec99 K n) K l7 l4 l2 l1 l0 l5 (B26 5 l0 10 l7) (ztv 12 r26) F26 B26 else none else if 0 ≤ r26 ∧ r26 < ztl 11 then f_Performance_keyHeard_162 rec99 (f_Performance_keyHeard_112 rec99 K n) K l7 l4 l2 l1 l0 l5 (B26 5 l0 10 l7) (ztv 11 r26) F26 B26 else none) else none else none else none)) else none
set_option maxHeartbeats 4000000 in
set_option maxRecDepth 100000 in
theorem b_Performance_keyHeard_112 {D : va_G} {ca : Nat → ClassId} {ad : Nat → Int → Nat → Nat} {L : List Nat} {aS vS : Nat → Nat} {A : Nat → Prop} {p : Program} {l : Launch} {e : Env} {s : State} {m : MethodId} {args : Array Value} {below : List Frame} {meth : Method} {c : Code} {K : zK} {r : Int} {F9 : zF} {B9 : zB} (X : zX D ca L aS vS A p s m args meth c prog_7_method_16_code 9 (Option.some Jvm.ClassFile.FieldType.int) "StaveHouse$Performance") {rec99 : Int → Int → Int → Int → zF → zB → zO} (hrec99 : ∀ {l4 : Int} {l2 : Int} {l1 : Int} {l0 : Int} {F : zF} {B : zB} {H : Heap} {locs : List Loc} {ls : Array Slot}, rec99 l4 l2 l1 l0 F B = some (r, F9, B9) → zH D ca ad lnC K.2 L F B A H → va_S A s.heap H locs → lv_has ls 9 [(4, .int (iI l4)), (2, .long (lI l2)), (1, .int (iI l1)), (0, .ref (ad 5 l0 0))] → W p l e ({ frames := 1, cells := 0, slots := 0, locals := 22 } : Room) s m args below meth c H locs 0 0 (MQ below (Q_Performance_keyHeard K D ca ad L r F9 B9 A) args s 0 0 A) (F0 m 99 ls [])) : ∀ {n : Nat} {l7 : Int} {l5 : Int} {l4 : Int} {l2 : Int} {l1 : Int} {l0 : Int} {F : zF} {B : zB} {H : Heap} {locs : List Loc} {ls : Array Slot}, f_Performance_keyHeard_112 rec99 K n l7 l5 l4 l2 l1 l0 F B = some (r, F9, B9) → zH D ca ad lnC K.2 L F B A H → va_S A s.heap H locs → lv_has ls 9 [(7, .int (iI l7)), (5, .long (lI l5)), (4, .int (iI l4)), (2, .long (lI l2)), (1, .int (iI l1)), (0, .ref (ad 5 l0 0))] → W p l e ({ frames := 1, cells := 0, slots := 0, locals := 22 } : Room) s m args below meth c H locs 0 0 (MQ below (Q_Performance_keyHeard K D ca ad L r F9 B9 A) args s 0 0 A) (F0 m 112 ls []) := by
  obtain ⟨hx, hb, hr, hml, hown, hts, hlk, hK, hA, hL, hX⟩ := id X
  intro n
  induction n with
  | zero =>
    intros
    rename_i hf _ _ _
    cases hf
  | succ n ih =>
    intro l7 l5 l4 l2 l1 l0 F B H locs ls hf hZ hS hl
    replace hf : (if r32 l7 then (if 12 ≤ l7 then if r64 l5 then if r64 l2 then (if (zcmp l5 l2) ≤ 0 then f_Performance_keyHeard_186 rec99 K l4 l2 l1 l0 F B else f_Performance_keyHeard_186 rec99 K l4 l5 l4 l0 F B) else none else none else zbind (f_Math_floorMod K (l7 - l4) 12 F B) (fun r26 F26 B26 => if 0 ≤ l0 ∧ l0 < K.2 5 then if 0 ≤ l7 ∧ l7 < 12 then if r32 l4 then (if 12 ≤ l4 then if 0 ≤ r26 ∧ r26 < ztl 12 then f_Performance_keyHeard_162 rec99 (f_Performance_keyHeard_112 rec99 K n) K l7 l4 l2 l1 l0 l5 (B26 5 l0 10 l7) (ztv 12 r26) F26 B26 else none else if 0 ≤ r26 ∧ r26 < ztl 11 then f_Performance_keyHeard_162 rec99 (f_Performance_keyHeard_112 rec99 K n) K l7 l4 l2 l1 l0 l5 (B26 5 l0 10 l7) (ztv 11 r26) F26 B26 else none) else none else none else none)) else none) = some (r, F9, B9) := hf
    refine lv_iload hx hb (D_21 W_prog_7_method_16_code_96 16 rfl rfl) (lv_at hl 0 rfl) ?_
    refine lv_bipush (v := iI 12) hx hb (D_16 W_prog_7_method_16_code_96 18 rfl rfl rfl) (by decide) ?_
    obtain ⟨g21, hf⟩ := gif hf
    refine zge (tgt := 173) hx hb g21 (by decide) (D_162 W_prog_7_method_16_code_96 20 rfl rfl rfl) (by decide) (fun h22 => ?_) (fun h22 => ?_)
    · replace hf := gpos hf h22
      refine lv_lload hx hb (D_22 W_prog_7_method_16_code_160 13 rfl rfl) (lv_at hl 1 rfl) ?_
      refine lv_lload_n hx hb (D_32 W_prog_7_method_16_code_160 15 rfl rfl) rfl (lv_at hl 3 rfl) ?_
      obtain ⟨g23, hf⟩ := gif hf
      obtain ⟨g24, hf⟩ := gif hf
      refine zcmp_r hx hb g23 g24 (D_148 W_prog_7_method_16_code_160 16 rfl rfl) ?_
      refine z0le (tgt := 186) hx hb zcmp_32 (D_158 W_prog_7_method_16_code_160 17 rfl rfl rfl) (by decide) (fun h25 => ?_) (fun h25 => ?_)
      · replace hf := gpos hf h25
        exact b_Performance_keyHeard_186 X hrec99 hf hZ hS (lv_sub hl [2, 3, 4, 5] rfl)
      · replace hf := gneg hf h25
        refine lv_lload hx hb (D_22 W_prog_7_method_16_code_160 20 rfl rfl) (lv_at hl 1 rfl) ?_
        refine lv_lstore_n (lv' := [(2, .long (lI l5)), (7, .int (iI l7)), (5, .long (lI l5)), (4, .int (iI l4)), (1, .int (iI l1)), (0, .ref (ad 5 l0 0))]) hx hb (D_65 W_prog_7_method_16_code_160 22 rfl rfl) rfl hl (by decide) rfl (fun ls hl => ?_)
        refine lv_iload hx hb (D_21 W_prog_7_method_16_code_160 23 rfl rfl) (lv_at hl 3 rfl) ?_
        refine lv_istore_n (lv' := [(1, .int (iI l4)), (2, .long (lI l5)), (7, .int (iI l7)), (5, .long (lI l5)), (4, .int (iI l4)), (0, .ref (ad 5 l0 0))]) hx hb (D_60 W_prog_7_method_16_code_160 25 rfl rfl) rfl hl (by decide) rfl (fun ls hl => ?_)
        exact b_Performance_keyHeard_186 X hrec99 hf hZ hS (lv_sub hl [4, 1, 0, 5] rfl)
    · replace hf := gneg hf h22
      refine lv_iload hx hb (D_21 W_prog_7_method_16_code_96 23 rfl rfl) (lv_at hl 0 rfl) ?_
      refine lv_iload hx hb (D_21 W_prog_7_method_16_code_96 25 rfl rfl) (lv_at hl 2 rfl) ?_
      refine zsub hx hb (D_100 W_prog_7_method_16_code_96 27 rfl rfl) ?_
      refine lv_bipush (v := iI 12) hx hb (D_16 W_prog_7_method_16_code_96 28 rfl rfl rfl) (by decide) ?_
      obtain ⟨r26, F26, B26, hc26, hf⟩ := gbind hf
      refine va_calli (va_runS (As := [.int (iI (l7 - l4)), .int (iI 12)]) (rest := []) ⟨hx, hb, hml, hown, hts⟩ (c_Math_floorMod (l := l) hc26) (va_cwS 2 hts (gdS k_6_159 k_4_71 k_1_3 k_4_72) rfl rfl rfl (by decide +kernel) ⟨Nat.le_of_ble_eq_true rfl, Nat.le_of_ble_eq_true rfl⟩) (zPS X hZ hS [.int (iI (l7 - l4)), .int (iI 12)]) rfl rfl hl.1 rfl (lv_room (Nat.le_of_ble_eq_true rfl)) (D_184 W_prog_7_method_16_code_96 30 rfl rfl rfl) ⟨Nat.le_of_ble_eq_true rfl, Nat.le_of_ble_eq_true rfl⟩) hS (fun q _ h => zAin X hS q h) (zAin X hS) (fun p26 u26 t26 H26 locs26 ht26 hv26 hw26 hB26 hz26 hk26 hS26 => ?_)
      have hZ26 := zBack X ht26 hB26
      subst hw26
      refine lv_istore (lv' := [(8, .int (iI r26)), (7, .int (iI l7)), (5, .long (lI l5)), (4, .int (iI l4)), (2, .long (lI l2)), (1, .int (iI l1)), (0, .ref (ad 5 l0 0))]) hx hb (D_54 W_prog_7_method_16_code_128 1 rfl rfl) hl (by decide) rfl (fun ls hl => ?_)
      refine lv_lload hx hb (D_22 W_prog_7_method_16_code_128 3 rfl rfl) (lv_at hl 2 rfl) ?_
      refine lv_aload_n hx hb (D_42 W_prog_7_method_16_code_128 5 rfl rfl) rfl (lv_at hl 6 rfl) ?_
      obtain ⟨g27, hf⟩ := gif hf
      refine zget (ci := 5) (C := RX5) (T := TX5) (v := .ref (ad 5 l0 (10 + 1))) (k := 10) hx hb hts inW_5 hown hK hZ26 g27.1 g27.2 rfl (by decide) k_6_79 rfl (D_180 W_prog_7_method_16_code_128 6 rfl rfl rfl) ?_
      refine lv_iload hx hb (D_21 W_prog_7_method_16_code_128 9 rfl rfl) (lv_at hl 1 rfl) ?_
      obtain ⟨g28, hf⟩ := gif hf
      refine zlald (ci := 5) (k := 10) hx hb hK rfl hZ26 g27.1 g27.2 rfl (Nat.le_of_ble_eq_true rfl) g28.1 g28.2 (D_47 W_prog_7_method_16_code_128 11 rfl rfl) ?_
      refine lv_iload hx hb (D_21 W_prog_7_method_16_code_128 12 rfl rfl) (lv_at hl 3 rfl) ?_
      refine lv_bipush (v := iI 12) hx hb (D_16 W_prog_7_method_16_code_128 14 rfl rfl rfl) (by decide) ?_
      obtain ⟨g29, hf⟩ := gif hf
      refine zge (tgt := 156) hx hb g29 (by decide) (D_162 W_prog_7_method_16_code_128 16 rfl rfl rfl) (by decide) (fun h30 => ?_) (fun h30 => ?_)
      · replace hf := gpos hf h30
        refine va_gets hx hb (hX.2.2.2.2.2.2 12 _ rfl).1 hS26 hown (hts _ k_6_162) (fun _ h => h) (D_178 W_prog_7_method_16_code_128 28 rfl rfl rfl) ?_
        refine W.eq (g2 := F0 m 159 ls [.ref (vS (1000 + 12)), .long (lI (B26 5 l0 10 l7)), .long (lI l5)]) rfl ?_
        refine lv_iload hx hb (D_21 W_prog_7_method_16_code_128 31 rfl rfl) (lv_at hl 0 rfl) ?_
        obtain ⟨g31, hf⟩ := gif hf
        refine va_ti (v := .int (iI (ztv 12 r26))) hx hb (ztI hX (by decide) (by decide)) hS26 (zt_in (by decide) g31) (ztI_v (by decide) g31) (D_46 W_prog_7_method_16_code_160 1 rfl rfl) ?_
        exact b_Performance_keyHeard_162 X hrec99 ih hf hZ26 hS26 (lv_sub hl [1, 3, 4, 5, 6] rfl)
      · replace hf := gneg hf h30
        refine va_gets hx hb (hX.2.2.2.2.2.2 11 _ rfl).1 hS26 hown (hts _ k_6_160) (fun _ h => h) (D_178 W_prog_7_method_16_code_128 19 rfl rfl rfl) ?_
        refine W.eq (g2 := F0 m 150 ls [.ref (vS (1000 + 11)), .long (lI (B26 5 l0 10 l7)), .long (lI l5)]) rfl ?_
        refine lv_iload hx hb (D_21 W_prog_7_method_16_code_128 22 rfl rfl) (lv_at hl 0 rfl) ?_
        obtain ⟨g33, hf⟩ := gif hf
        refine va_ti (v := .int (iI (ztv 11 r26))) hx hb (ztI hX (by decide) (by decide)) hS26 (zt_in (by decide) g33) (ztI_v (by decide) g33) (D_46 W_prog_7_method_16_code_128 24 rfl rfl) ?_
        refine lv_goto (tgt := 162) hx hb (D_167 W_prog_7_method_16_code_128 25 rfl rfl rfl) (by decide) ?_
        exact b_Performance_keyHeard_162 X hrec99 ih hf hZ26 hS26 (lv_sub hl [1, 3, 4, 5, 6] rfl)

def f_Performance_keyHeard_99 (K : zK) : Nat → Int → Int → Int → Int → zF → zB → zO
  | 0, _, _, _, _, _, _ => none
  | n + 1, l4, l2, l1, l0, F, B => if r32 l4 then (if 24 ≤ l4 then some (l1, F, B) else f_Performance_keyHeard_112 (f_Performance_keyHeard_99 K n) K K.1 0 0 l4 l2 l1 l0 F B) else none
set_option maxHeartbeats 4000000 in
set_option maxRecDepth 100000 in
theorem b_Performance_keyHeard_99 {D : va_G} {ca : Nat → ClassId} {ad : Nat → Int → Nat → Nat} {L : List Nat} {aS vS : Nat → Nat} {A : Nat → Prop} {p : Program} {l : Launch} {e : Env} {s : State} {m : MethodId} {args : Array Value} {below : List Frame} {meth : Method} {c : Code} {K : zK} {r : Int} {F9 : zF} {B9 : zB} (X : zX D ca L aS vS A p s m args meth c prog_7_method_16_code 9 (Option.some Jvm.ClassFile.FieldType.int) "StaveHouse$Performance") : ∀ {n : Nat} {l4 : Int} {l2 : Int} {l1 : Int} {l0 : Int} {F : zF} {B : zB} {H : Heap} {locs : List Loc} {ls : Array Slot}, f_Performance_keyHeard_99 K n l4 l2 l1 l0 F B = some (r, F9, B9) → zH D ca ad lnC K.2 L F B A H → va_S A s.heap H locs → lv_has ls 9 [(4, .int (iI l4)), (2, .long (lI l2)), (1, .int (iI l1)), (0, .ref (ad 5 l0 0))] → W p l e ({ frames := 1, cells := 0, slots := 0, locals := 22 } : Room) s m args below meth c H locs 0 0 (MQ below (Q_Performance_keyHeard K D ca ad L r F9 B9 A) args s 0 0 A) (F0 m 99 ls []) := by
  obtain ⟨hx, hb, hr, hml, hown, hts, hlk, hK, hA, hL, hX⟩ := id X
  intro n
  induction n with
  | zero =>
    intros
    rename_i hf _ _ _
    cases hf
  | succ n ih =>
    intro l4 l2 l1 l0 F B H locs ls hf hZ hS hl
    replace hf : (if r32 l4 then (if 24 ≤ l4 then some (l1, F, B) else f_Performance_keyHeard_112 (f_Performance_keyHeard_99 K n) K K.1 0 0 l4 l2 l1 l0 F B) else none) = some (r, F9, B9) := hf
    refine lv_iload hx hb (D_21 W_prog_7_method_16_code_96 3 rfl rfl) (lv_at hl 0 rfl) ?_
    refine lv_bipush (v := iI 24) hx hb (D_16 W_prog_7_method_16_code_96 5 rfl rfl rfl) (by decide) ?_
    obtain ⟨g19, hf⟩ := gif hf
    refine zge (tgt := 192) hx hb g19 (by decide) (D_162 W_prog_7_method_16_code_96 7 rfl rfl rfl) (by decide) (fun h20 => ?_) (fun h20 => ?_)
    · replace hf := gpos hf h20
      refine lv_iload_n hx hb (D_27 W_prog_7_method_16_code_192 0 rfl rfl) rfl (lv_at hl 2 rfl) ?_
      cases hf
      exact W.iret hx hb hr (fun t ht hW => ⟨⟨_, (), rfl, rfl, by rw [ht]; exact hZ, va_K.moved hW.alike hK⟩, hS.F ht⟩) hS.2.2 (D_172 W_prog_7_method_16_code_192 1 rfl rfl) hlk
    · replace hf := gneg hf h20
      refine lv_lconst (v := lI 0) hx hb (D_9 W_prog_7_method_16_code_96 10 rfl rfl) (by decide) ?_
      refine lv_lstore (lv' := [(5, .long (lI 0)), (4, .int (iI l4)), (2, .long (lI l2)), (1, .int (iI l1)), (0, .ref (ad 5 l0 0))]) hx hb (D_55 W_prog_7_method_16_code_96 11 rfl rfl) hl (by decide) rfl (fun ls hl => ?_)
      refine lv_iconst (v := iI 0) hx hb (D_3 W_prog_7_method_16_code_96 13 rfl rfl) rfl ?_
      refine lv_istore (lv' := [(7, .int (iI 0)), (5, .long (lI 0)), (4, .int (iI l4)), (2, .long (lI l2)), (1, .int (iI l1)), (0, .ref (ad 5 l0 0))]) hx hb (D_54 W_prog_7_method_16_code_96 14 rfl rfl) hl (by decide) rfl (fun ls hl => ?_)
      exact b_Performance_keyHeard_112 X ih hf hZ hS (lv_sub hl [0, 1, 2, 3, 4, 5] rfl)

def f_Performance_keyHeard_39 (K : zK) : Nat → Int → Int → zF → zB → zO
  | 0, _, _, _, _ => none
  | n + 1, l1, l0, F, B => if 0 ≤ l0 ∧ l0 < K.2 5 then if r32 l1 then if r32 (F 5 l0 0) then (if (F 5 l0 0) ≤ l1 then f_Performance_keyHeard_99 K K.1 0 (-1) 0 l0 F B else if 0 ≤ l1 ∧ l1 < 2000 then if 0 ≤ (zrm (B 5 l0 342 l1) 12) ∧ (zrm (B 5 l0 342 l1) 12) < 12 then if r32 ((B 5 l0 345 l1) - (B 5 l0 344 l1)) then f_Performance_keyHeard_39 K n (l1 + 1) l0 F (zup4 B 5 l0 10 (zrm (B 5 l0 342 l1) 12) ((B 5 l0 10 (zrm (B 5 l0 342 l1) 12)) + ((B 5 l0 345 l1) - (B 5 l0 344 l1)))) else none else none else none) else none else none else none
set_option maxHeartbeats 4000000 in
set_option maxRecDepth 100000 in
theorem b_Performance_keyHeard_39 {D : va_G} {ca : Nat → ClassId} {ad : Nat → Int → Nat → Nat} {L : List Nat} {aS vS : Nat → Nat} {A : Nat → Prop} {p : Program} {l : Launch} {e : Env} {s : State} {m : MethodId} {args : Array Value} {below : List Frame} {meth : Method} {c : Code} {K : zK} {r : Int} {F9 : zF} {B9 : zB} (X : zX D ca L aS vS A p s m args meth c prog_7_method_16_code 9 (Option.some Jvm.ClassFile.FieldType.int) "StaveHouse$Performance") : ∀ {n : Nat} {l1 : Int} {l0 : Int} {F : zF} {B : zB} {H : Heap} {locs : List Loc} {ls : Array Slot}, f_Performance_keyHeard_39 K n l1 l0 F B = some (r, F9, B9) → zH D ca ad lnC K.2 L F B A H → va_S A s.heap H locs → lv_has ls 9 [(1, .int (iI l1)), (0, .ref (ad 5 l0 0))] → W p l e ({ frames := 1, cells := 0, slots := 0, locals := 22 } : Room) s m args below meth c H locs 0 0 (MQ below (Q_Performance_keyHeard K D ca ad L r F9 B9 A) args s 0 0 A) (F0 m 39 ls []) := by
  obtain ⟨hx, hb, hr, hml, hown, hts, hlk, hK, hA, hL, hX⟩ := id X
  intro n
  induction n with
  | zero =>
    intros
    rename_i hf _ _ _
    cases hf
  | succ n ih =>
    intro l1 l0 F B H locs ls hf hZ hS hl
    replace hf : (if 0 ≤ l0 ∧ l0 < K.2 5 then if r32 l1 then if r32 (F 5 l0 0) then (if (F 5 l0 0) ≤ l1 then f_Performance_keyHeard_99 K K.1 0 (-1) 0 l0 F B else if 0 ≤ l1 ∧ l1 < 2000 then if 0 ≤ (zrm (B 5 l0 342 l1) 12) ∧ (zrm (B 5 l0 342 l1) 12) < 12 then if r32 ((B 5 l0 345 l1) - (B 5 l0 344 l1)) then f_Performance_keyHeard_39 K n (l1 + 1) l0 F (zup4 B 5 l0 10 (zrm (B 5 l0 342 l1) 12) ((B 5 l0 10 (zrm (B 5 l0 342 l1) 12)) + ((B 5 l0 345 l1) - (B 5 l0 344 l1)))) else none else none else none) else none else none else none) = some (r, F9, B9) := hf
    refine lv_iload_n hx hb (D_27 W_prog_7_method_16_code_32 7 rfl rfl) rfl (lv_at hl 0 rfl) ?_
    refine lv_aload_n hx hb (D_42 W_prog_7_method_16_code_32 8 rfl rfl) rfl (lv_at hl 1 rfl) ?_
    obtain ⟨g11, hf⟩ := gif hf
    refine zget (ci := 5) (C := RX5) (T := TX5) (v := .int (iI (F 5 l0 0))) (k := 0) hx hb hts inW_5 hown hK hZ g11.1 g11.2 rfl (by decide) k_6_63 rfl (D_180 W_prog_7_method_16_code_32 9 rfl rfl rfl) ?_
    obtain ⟨g12, hf⟩ := gif hf
    obtain ⟨g13, hf⟩ := gif hf
    refine zge (tgt := 90) hx hb g12 g13 (D_162 W_prog_7_method_16_code_32 12 rfl rfl rfl) (by decide) (fun h14 => ?_) (fun h14 => ?_)
    · replace hf := gpos hf h14
      refine lv_iconst (v := iI 0) hx hb (D_3 W_prog_7_method_16_code_64 26 rfl rfl) rfl ?_
      refine lv_istore_n (lv' := [(1, .int (iI 0)), (0, .ref (ad 5 l0 0))]) hx hb (D_60 W_prog_7_method_16_code_64 27 rfl rfl) rfl hl (by decide) rfl (fun ls hl => ?_)
      refine lv_ldc2 hx hb hown (hts _ k_6_158) (D_20 W_prog_7_method_16_code_64 28 rfl rfl rfl) ?_
      refine W.eq (g2 := F0 m 95 ls [.long (lI (-1))]) rfl ?_
      refine lv_lstore_n (lv' := [(2, .long (lI (-1))), (1, .int (iI 0)), (0, .ref (ad 5 l0 0))]) hx hb (D_65 W_prog_7_method_16_code_64 31 rfl rfl) rfl hl (by decide) rfl (fun ls hl => ?_)
      refine lv_iconst (v := iI 0) hx hb (D_3 W_prog_7_method_16_code_96 0 rfl rfl) rfl ?_
      refine lv_istore (lv' := [(4, .int (iI 0)), (2, .long (lI (-1))), (1, .int (iI 0)), (0, .ref (ad 5 l0 0))]) hx hb (D_54 W_prog_7_method_16_code_96 1 rfl rfl) hl (by decide) rfl (fun ls hl => ?_)
      exact b_Performance_keyHeard_99 X hf hZ hS (lv_sub hl [0, 1, 2, 3] rfl)
    · replace hf := gneg hf h14
      refine lv_aload_n hx hb (D_42 W_prog_7_method_16_code_32 15 rfl rfl) rfl (lv_at hl 1 rfl) ?_
      refine zget (ci := 5) (C := RX5) (T := TX5) (v := .ref (ad 5 l0 (10 + 1))) (k := 10) hx hb hts inW_5 hown hK hZ g11.1 g11.2 rfl (by decide) k_6_79 rfl (D_180 W_prog_7_method_16_code_32 16 rfl rfl rfl) ?_
      refine lv_aload_n hx hb (D_42 W_prog_7_method_16_code_32 19 rfl rfl) rfl (lv_at hl 1 rfl) ?_
      refine zget (ci := 5) (C := RX5) (T := TX5) (v := .ref (ad 5 l0 (7 + 1))) (k := 7) hx hb hts inW_5 hown hK hZ g11.1 g11.2 rfl (by decide) k_6_76 rfl (D_180 W_prog_7_method_16_code_32 20 rfl rfl rfl) ?_
      refine lv_iconst (v := iI 2) hx hb (D_5 W_prog_7_method_16_code_32 23 rfl rfl) rfl ?_
      refine zaldQ (t := 0) (ci := 5) (k := 7) hx hb hK rfl hZ g11.1 g11.2 rfl (Nat.le_of_ble_eq_true rfl) (by decide) (by decide) (D_50 W_prog_7_method_16_code_32 24 rfl rfl) ?_
      refine W.eq (g2 := F0 m 57 ls [.ref (ad 5 l0 (342 + 1)), .ref (ad 5 l0 (10 + 1))]) rfl ?_
      refine lv_iload_n hx hb (D_27 W_prog_7_method_16_code_32 25 rfl rfl) rfl (lv_at hl 0 rfl) ?_
      obtain ⟨g15, hf⟩ := gif hf
      refine zald (ci := 5) (k := 342) hx hb hK rfl hZ g11.1 g11.2 rfl (Nat.le_of_ble_eq_true rfl) g15.1 g15.2 (D_46 W_prog_7_method_16_code_32 26 rfl rfl) ?_
      refine lv_bipush (v := iI 12) hx hb (D_16 W_prog_7_method_16_code_32 27 rfl rfl rfl) (by decide) ?_
      refine zrm_r hx hb (by decide) (D_112 W_prog_7_method_16_code_32 29 rfl rfl) ?_
      refine lv_dup2_11 hx hb (D_92 W_prog_7_method_16_code_32 30 rfl rfl) rfl rfl ?_
      obtain ⟨g16, hf⟩ := gif hf
      refine zlald (ci := 5) (k := 10) hx hb hK rfl hZ g11.1 g11.2 rfl (Nat.le_of_ble_eq_true rfl) g16.1 g16.2 (D_47 W_prog_7_method_16_code_32 31 rfl rfl) ?_
      refine lv_aload_n hx hb (D_42 W_prog_7_method_16_code_64 0 rfl rfl) rfl (lv_at hl 1 rfl) ?_
      refine zget (ci := 5) (C := RX5) (T := TX5) (v := .ref (ad 5 l0 (7 + 1))) (k := 7) hx hb hts inW_5 hown hK hZ g11.1 g11.2 rfl (by decide) k_6_76 rfl (D_180 W_prog_7_method_16_code_64 1 rfl rfl rfl) ?_
      refine lv_iconst (v := iI 5) hx hb (D_8 W_prog_7_method_16_code_64 4 rfl rfl) rfl ?_
      refine zaldQ (t := 0) (ci := 5) (k := 7) hx hb hK rfl hZ g11.1 g11.2 rfl (Nat.le_of_ble_eq_true rfl) (by decide) (by decide) (D_50 W_prog_7_method_16_code_64 5 rfl rfl) ?_
      refine W.eq (g2 := F0 m 70 ls [.ref (ad 5 l0 (345 + 1)), .long (lI (B 5 l0 10 (zrm (B 5 l0 342 l1) 12))), .int (iI (zrm (B 5 l0 342 l1) 12)), .ref (ad 5 l0 (10 + 1))]) rfl ?_
      refine lv_iload_n hx hb (D_27 W_prog_7_method_16_code_64 6 rfl rfl) rfl (lv_at hl 0 rfl) ?_
      refine zald (ci := 5) (k := 345) hx hb hK rfl hZ g11.1 g11.2 rfl (Nat.le_of_ble_eq_true rfl) g15.1 g15.2 (D_46 W_prog_7_method_16_code_64 7 rfl rfl) ?_
      refine lv_aload_n hx hb (D_42 W_prog_7_method_16_code_64 8 rfl rfl) rfl (lv_at hl 1 rfl) ?_
      refine zget (ci := 5) (C := RX5) (T := TX5) (v := .ref (ad 5 l0 (7 + 1))) (k := 7) hx hb hts inW_5 hown hK hZ g11.1 g11.2 rfl (by decide) k_6_76 rfl (D_180 W_prog_7_method_16_code_64 9 rfl rfl rfl) ?_
      refine lv_iconst (v := iI 4) hx hb (D_7 W_prog_7_method_16_code_64 12 rfl rfl) rfl ?_
      refine zaldQ (t := 0) (ci := 5) (k := 7) hx hb hK rfl hZ g11.1 g11.2 rfl (Nat.le_of_ble_eq_true rfl) (by decide) (by decide) (D_50 W_prog_7_method_16_code_64 13 rfl rfl) ?_
      refine W.eq (g2 := F0 m 78 ls [.ref (ad 5 l0 (344 + 1)), .int (iI (B 5 l0 345 l1)), .long (lI (B 5 l0 10 (zrm (B 5 l0 342 l1) 12))), .int (iI (zrm (B 5 l0 342 l1) 12)), .ref (ad 5 l0 (10 + 1))]) rfl ?_
      refine lv_iload_n hx hb (D_27 W_prog_7_method_16_code_64 14 rfl rfl) rfl (lv_at hl 0 rfl) ?_
      refine zald (ci := 5) (k := 344) hx hb hK rfl hZ g11.1 g11.2 rfl (Nat.le_of_ble_eq_true rfl) g15.1 g15.2 (D_46 W_prog_7_method_16_code_64 15 rfl rfl) ?_
      refine zsub hx hb (D_100 W_prog_7_method_16_code_64 16 rfl rfl) ?_
      obtain ⟨g17, hf⟩ := gif hf
      refine zi2l hx hb g17 (D_133 W_prog_7_method_16_code_64 17 rfl rfl) ?_
      refine zladd hx hb (D_97 W_prog_7_method_16_code_64 18 rfl rfl) ?_
      refine zlast (ci := 5) (k := 10) hx hb hK rfl hZ hS g11.1 g11.2 rfl (Nat.le_of_ble_eq_true rfl) g16.1 g16.2 (D_80 W_prog_7_method_16_code_64 19 rfl rfl) (fun H18 locs18 hZ18 hS18 => ?_)
      refine lv_iinc (v := iI (l1 + 1)) (lv' := [(1, .int (iI (l1 + 1))), (0, .ref (ad 5 l0 0))]) hx hb d_7_16_84 hl (k := 0) rfl (iI_add _ 1) (by decide) rfl (fun ls hl => ?_)
      refine lv_goto (tgt := 39) hx hb (D_167 W_prog_7_method_16_code_64 23 rfl rfl rfl) (by decide) ?_
      exact ih hf hZ18 hS18 (lv_sub hl [0, 1] rfl)

def f_Performance_keyHeard_18 (K : zK) : Nat → Int → Int → zF → zB → zO
  | 0, _, _, _, _ => none
  | n + 1, l1, l0, F, B => if r32 l1 then (if 12 ≤ l1 then f_Performance_keyHeard_39 K K.1 0 l0 F B else if 0 ≤ l0 ∧ l0 < K.2 5 then if 0 ≤ l1 ∧ l1 < 12 then f_Performance_keyHeard_18 K n (l1 + 1) l0 F (zup4 B 5 l0 10 l1 0) else none else none) else none
set_option maxHeartbeats 4000000 in
set_option maxRecDepth 100000 in
theorem b_Performance_keyHeard_18 {D : va_G} {ca : Nat → ClassId} {ad : Nat → Int → Nat → Nat} {L : List Nat} {aS vS : Nat → Nat} {A : Nat → Prop} {p : Program} {l : Launch} {e : Env} {s : State} {m : MethodId} {args : Array Value} {below : List Frame} {meth : Method} {c : Code} {K : zK} {r : Int} {F9 : zF} {B9 : zB} (X : zX D ca L aS vS A p s m args meth c prog_7_method_16_code 9 (Option.some Jvm.ClassFile.FieldType.int) "StaveHouse$Performance") : ∀ {n : Nat} {l1 : Int} {l0 : Int} {F : zF} {B : zB} {H : Heap} {locs : List Loc} {ls : Array Slot}, f_Performance_keyHeard_18 K n l1 l0 F B = some (r, F9, B9) → zH D ca ad lnC K.2 L F B A H → va_S A s.heap H locs → lv_has ls 9 [(1, .int (iI l1)), (0, .ref (ad 5 l0 0))] → W p l e ({ frames := 1, cells := 0, slots := 0, locals := 22 } : Room) s m args below meth c H locs 0 0 (MQ below (Q_Performance_keyHeard K D ca ad L r F9 B9 A) args s 0 0 A) (F0 m 18 ls []) := by
  obtain ⟨hx, hb, hr, hml, hown, hts, hlk, hK, hA, hL, hX⟩ := id X
  intro n
  induction n with
  | zero =>
    intros
    rename_i hf _ _ _
    cases hf
  | succ n ih =>
    intro l1 l0 F B H locs ls hf hZ hS hl
    replace hf : (if r32 l1 then (if 12 ≤ l1 then f_Performance_keyHeard_39 K K.1 0 l0 F B else if 0 ≤ l0 ∧ l0 < K.2 5 then if 0 ≤ l1 ∧ l1 < 12 then f_Performance_keyHeard_18 K n (l1 + 1) l0 F (zup4 B 5 l0 10 l1 0) else none else none) else none) = some (r, F9, B9) := hf
    refine lv_iload_n hx hb (D_27 W_prog_7_method_16_code_0 18 rfl rfl) rfl (lv_at hl 0 rfl) ?_
    refine lv_bipush (v := iI 12) hx hb (D_16 W_prog_7_method_16_code_0 19 rfl rfl rfl) (by decide) ?_
    obtain ⟨g6, hf⟩ := gif hf
    refine zge (tgt := 37) hx hb g6 (by decide) (D_162 W_prog_7_method_16_code_0 21 rfl rfl rfl) (by decide) (fun h7 => ?_) (fun h7 => ?_)
    · replace hf := gpos hf h7
      refine lv_iconst (v := iI 0) hx hb (D_3 W_prog_7_method_16_code_32 5 rfl rfl) rfl ?_
      refine lv_istore_n (lv' := [(1, .int (iI 0)), (0, .ref (ad 5 l0 0))]) hx hb (D_60 W_prog_7_method_16_code_32 6 rfl rfl) rfl hl (by decide) rfl (fun ls hl => ?_)
      exact b_Performance_keyHeard_39 X hf hZ hS (lv_sub hl [0, 1] rfl)
    · replace hf := gneg hf h7
      refine lv_aload_n hx hb (D_42 W_prog_7_method_16_code_0 24 rfl rfl) rfl (lv_at hl 1 rfl) ?_
      obtain ⟨g8, hf⟩ := gif hf
      refine zget (ci := 5) (C := RX5) (T := TX5) (v := .ref (ad 5 l0 (10 + 1))) (k := 10) hx hb hts inW_5 hown hK hZ g8.1 g8.2 rfl (by decide) k_6_79 rfl (D_180 W_prog_7_method_16_code_0 25 rfl rfl rfl) ?_
      refine lv_iload_n hx hb (D_27 W_prog_7_method_16_code_0 28 rfl rfl) rfl (lv_at hl 0 rfl) ?_
      refine lv_lconst (v := lI 0) hx hb (D_9 W_prog_7_method_16_code_0 29 rfl rfl) (by decide) ?_
      obtain ⟨g9, hf⟩ := gif hf
      refine zlast (ci := 5) (k := 10) hx hb hK rfl hZ hS g8.1 g8.2 rfl (Nat.le_of_ble_eq_true rfl) g9.1 g9.2 (D_80 W_prog_7_method_16_code_0 30 rfl rfl) (fun H10 locs10 hZ10 hS10 => ?_)
      refine lv_iinc (v := iI (l1 + 1)) (lv' := [(1, .int (iI (l1 + 1))), (0, .ref (ad 5 l0 0))]) hx hb d_7_16_31 hl (k := 0) rfl (iI_add _ 1) (by decide) rfl (fun ls hl => ?_)
      refine lv_goto (tgt := 18) hx hb (D_167 W_prog_7_method_16_code_32 2 rfl rfl rfl) (by decide) ?_
      exact ih hf hZ10 hS10 (lv_sub hl [0, 1] rfl)

def f_Performance_keyHeard_14 (K : zK)  (F : zF) (B : zB) : zO := some ((-1), F, B)
set_option maxHeartbeats 4000000 in
set_option maxRecDepth 100000 in
theorem b_Performance_keyHeard_14 {D : va_G} {ca : Nat → ClassId} {ad : Nat → Int → Nat → Nat} {L : List Nat} {aS vS : Nat → Nat} {A : Nat → Prop} {p : Program} {l : Launch} {e : Env} {s : State} {m : MethodId} {args : Array Value} {below : List Frame} {meth : Method} {c : Code} {K : zK} {r : Int} {F9 : zF} {B9 : zB} (X : zX D ca L aS vS A p s m args meth c prog_7_method_16_code 9 (Option.some Jvm.ClassFile.FieldType.int) "StaveHouse$Performance")  {F : zF} {B : zB} {H : Heap} {locs : List Loc} {ls : Array Slot} (hf : f_Performance_keyHeard_14 K  F B = some (r, F9, B9)) (hZ : zH D ca ad lnC K.2 L F B A H) (hS : va_S A s.heap H locs) (hl : lv_has ls 9 []) : W p l e ({ frames := 1, cells := 0, slots := 0, locals := 22 } : Room) s m args below meth c H locs 0 0 (MQ below (Q_Performance_keyHeard K D ca ad L r F9 B9 A) args s 0 0 A) (F0 m 14 ls []) := by
  obtain ⟨hx, hb, hr, hml, hown, hts, hlk, hK, hA, hL, hX⟩ := id X
  replace hf : (some ((-1), F, B)) = some (r, F9, B9) := hf
  refine lv_iconst (v := iI (-1)) hx hb (D_2 W_prog_7_method_16_code_0 14 rfl rfl) rfl ?_
  cases hf
  exact W.iret hx hb hr (fun t ht hW => ⟨⟨_, (), rfl, rfl, by rw [ht]; exact hZ, va_K.moved hW.alike hK⟩, hS.F ht⟩) hS.2.2 (D_172 W_prog_7_method_16_code_0 15 rfl rfl) hlk

def f_Performance_keyHeard (K : zK) (l0 : Int) (F : zF) (B : zB) : zO := if 0 ≤ l0 ∧ l0 < K.2 5 then if r32 (F 5 l0 1) then (if (F 5 l0 1) = 0 then if r32 (F 5 l0 0) then (if (F 5 l0 0) = 0 then f_Performance_keyHeard_14 K F B else f_Performance_keyHeard_18 K K.1 0 l0 F B) else none else f_Performance_keyHeard_14 K F B) else none else none
set_option maxHeartbeats 4000000 in
set_option maxRecDepth 100000 in
theorem c_Performance_keyHeard {l : Launch} {D : va_G} {ca : Nat → ClassId} {ad : Nat → Int → Nat → Nat} {L : List Nat} {aS vS : Nat → Nat} {sz : Nat} {K : zK}  {l0 : Int} {F F9 : zF} {B B9 : zB} {r : Int} (hf : f_Performance_keyHeard K l0 F B = some (r, F9, B9)) : Met l ({ cls := "StaveHouse$Performance", name := "keyHeard", desc := "()I" } : Jvm.MethodName) (Cond.code ({ cls := "StaveHouse$Performance", name := "keyHeard", desc := "()I" } : Jvm.MethodName) prog_7_method_16_code 9 (Option.some Jvm.ClassFile.FieldType.int) :: wAll) ({ frames := 1, cells := 0, slots := 0, locals := 22 } : Room) (va_Pc [.ref (ad 5 l0 0)] (zPre D ca ad lnC K.2 L aS vS F B sz)) (Q_Performance_keyHeard K D ca ad L r F9 B9 (zA L sz)) 0 0 (zA L sz) := by
  refine zMet (Qc := Q_Performance_keyHeard K D ca ad L r F9 B9) (lv := [(0, .ref (ad 5 l0 0))]) (by decide) (Nat.le_of_ble_eq_true rfl) rfl (fun A p e s m below meth c ls X hZ hS hl => ?_)
  obtain ⟨hx, hb, hr, hml, hown, hts, hlk, hK, hA, hL, hX⟩ := id X
  replace hf : (if 0 ≤ l0 ∧ l0 < K.2 5 then if r32 (F 5 l0 1) then (if (F 5 l0 1) = 0 then if r32 (F 5 l0 0) then (if (F 5 l0 0) = 0 then f_Performance_keyHeard_14 K F B else f_Performance_keyHeard_18 K K.1 0 l0 F B) else none else f_Performance_keyHeard_14 K F B) else none else none) = some (r, F9, B9) := hf
  refine lv_aload_n hx hb (D_42 W_prog_7_method_16_code_0 0 rfl rfl) rfl (lv_at hl 0 rfl) ?_
  obtain ⟨g1, hf⟩ := gif hf
  refine zget (ci := 5) (C := RX5) (T := TX5) (v := .int (iI (F 5 l0 1))) (k := 1) hx hb hts inW_5 hown hK hZ g1.1 g1.2 rfl (by decide) k_6_65 rfl (D_180 W_prog_7_method_16_code_0 1 rfl rfl rfl) ?_
  obtain ⟨g2, hf⟩ := gif hf
  refine z0ne (tgt := 14) hx hb g2 (D_154 W_prog_7_method_16_code_0 4 rfl rfl rfl) (by decide) (fun h3 => ?_) (fun h3 => ?_)
  · replace hf := gneg hf h3
    exact b_Performance_keyHeard_14 X hf hZ hS (lv_sub hl [] rfl)
  · replace hf := gpos hf h3
    refine lv_aload_n hx hb (D_42 W_prog_7_method_16_code_0 7 rfl rfl) rfl (lv_at hl 0 rfl) ?_
    refine zget (ci := 5) (C := RX5) (T := TX5) (v := .int (iI (F 5 l0 0))) (k := 0) hx hb hts inW_5 hown hK hZ g1.1 g1.2 rfl (by decide) k_6_63 rfl (D_180 W_prog_7_method_16_code_0 8 rfl rfl rfl) ?_
    obtain ⟨g4, hf⟩ := gif hf
    refine z0ne (tgt := 16) hx hb g4 (D_154 W_prog_7_method_16_code_0 11 rfl rfl rfl) (by decide) (fun h5 => ?_) (fun h5 => ?_)
    · replace hf := gneg hf h5
      refine lv_iconst (v := iI 0) hx hb (D_3 W_prog_7_method_16_code_0 16 rfl rfl) rfl ?_
      refine lv_istore_n (lv' := [(1, .int (iI 0)), (0, .ref (ad 5 l0 0))]) hx hb (D_60 W_prog_7_method_16_code_0 17 rfl rfl) rfl hl (by decide) rfl (fun ls hl => ?_)
      exact b_Performance_keyHeard_18 X hf hZ hS (lv_sub hl [0, 1] rfl)
    · replace hf := gpos hf h5
      exact b_Performance_keyHeard_14 X hf hZ hS (lv_sub hl [] rfl)

abbrev Q_S_partAt (K : zK) (D : va_G) (ca : Nat → ClassId) (ad : Nat → Int → Nat → Nat) (L : List Nat) (r : Int) (F : zF) (B : zB) (A : Nat → Prop) : Array Value → State → Outcome → State → Prop := va_Qq (S := Unit) (fun p _ => p = zrf ad 4 r) (fun _ => zPo D ca ad lnC K.2 L F B A) A
def f_S_partAt_32 (K : zK) (s0 : Int) (F : zF) (B : zB) : zO := some (s0, F, B)
set_option maxHeartbeats 4000000 in
set_option maxRecDepth 100000 in
theorem b_S_partAt_32 {D : va_G} {ca : Nat → ClassId} {ad : Nat → Int → Nat → Nat} {L : List Nat} {aS vS : Nat → Nat} {A : Nat → Prop} {p : Program} {l : Launch} {e : Env} {s : State} {m : MethodId} {args : Array Value} {below : List Frame} {meth : Method} {c : Code} {K : zK} {r : Int} {F9 : zF} {B9 : zB} (X : zX D ca L aS vS A p s m args meth c prog_1_method_7_code 4 (Option.some (Jvm.ClassFile.FieldType.object "StaveHouse$Part")) "StaveHouse") {s0 : Int} {F : zF} {B : zB} {H : Heap} {locs : List Loc} {ls : Array Slot} (hf : f_S_partAt_32 K s0 F B = some (r, F9, B9)) (hZ : zH D ca ad lnC K.2 L F B A H) (hS : va_S A s.heap H locs) (hl : lv_has ls 4 []) : W p l e ({ frames := 1, cells := 0, slots := 0, locals := 21 } : Room) s m args below meth c H locs 0 0 (MQ below (Q_S_partAt K D ca ad L r F9 B9 A) args s 0 0 A) (F0 m 32 ls [va_rf (zrf ad 4 s0)]) := by
  obtain ⟨hx, hb, hr, hml, hown, hts, hlk, hK, hA, hL, hX⟩ := id X
  replace hf : (some (s0, F, B)) = some (r, F9, B9) := hf
  cases hf
  exact W.aret hx hb hr (Or.inl ⟨_, rfl⟩) (va_rf_or _) (fun t ht hW => ⟨⟨_, (), rfl, rfl, by rw [ht]; exact hZ, va_K.moved hW.alike hK⟩, hS.F ht⟩) hS.2.2 (D_176 W_prog_1_method_7_code_32 0 rfl rfl) hlk

def f_S_partAt_22 (K : zK)  (F : zF) (B : zB) : zO := f_S_partAt_32 K (-1) F B
set_option maxHeartbeats 4000000 in
set_option maxRecDepth 100000 in
theorem b_S_partAt_22 {D : va_G} {ca : Nat → ClassId} {ad : Nat → Int → Nat → Nat} {L : List Nat} {aS vS : Nat → Nat} {A : Nat → Prop} {p : Program} {l : Launch} {e : Env} {s : State} {m : MethodId} {args : Array Value} {below : List Frame} {meth : Method} {c : Code} {K : zK} {r : Int} {F9 : zF} {B9 : zB} (X : zX D ca L aS vS A p s m args meth c prog_1_method_7_code 4 (Option.some (Jvm.ClassFile.FieldType.object "StaveHouse$Part")) "StaveHouse")  {F : zF} {B : zB} {H : Heap} {locs : List Loc} {ls : Array Slot} (hf : f_S_partAt_22 K  F B = some (r, F9, B9)) (hZ : zH D ca ad lnC K.2 L F B A H) (hS : va_S A s.heap H locs) (hl : lv_has ls 4 []) : W p l e ({ frames := 1, cells := 0, slots := 0, locals := 21 } : Room) s m args below meth c H locs 0 0 (MQ below (Q_S_partAt K D ca ad L r F9 B9 A) args s 0 0 A) (F0 m 22 ls []) := by
  obtain ⟨hx, hb, hr, hml, hown, hts, hlk, hK, hA, hL, hX⟩ := id X
  replace hf : (f_S_partAt_32 K (-1) F B) = some (r, F9, B9) := hf
  refine lv_null hx hb (D_1 W_prog_1_method_7_code_0 22 rfl rfl) ?_
  refine W.eq (g2 := F0 m 23 ls [va_rf (zrf ad 4 (-1))]) rfl ?_
  refine lv_goto (tgt := 32) hx hb (D_167 W_prog_1_method_7_code_0 23 rfl rfl rfl) (by decide) ?_
  exact b_S_partAt_32 X hf hZ hS (lv_sub hl [] rfl)

def f_S_partAt (K : zK) (l0 : Int) (l1 : Int) (l2 : Int) (F : zF) (B : zB) : zO := if 0 ≤ l0 ∧ l0 < K.2 12 then zbind (f_S_pieceAt K l0 l1 F B) (fun r2 F2 B2 => (if r2 < 0 then f_S_partAt_22 K F2 B2 else if r32 l2 then (if l2 < 0 then f_S_partAt_22 K F2 B2 else if 0 ≤ r2 ∧ r2 < K.2 6 then if r32 (F2 6 r2 1) then (if l2 < (F2 6 r2 1) then if 0 ≤ l2 ∧ l2 < 4 then f_S_partAt_32 K (B2 6 r2 0 l2) F2 B2 else none else f_S_partAt_22 K F2 B2) else none else none) else none)) else none
set_option maxHeartbeats 4000000 in
set_option maxRecDepth 100000 in
theorem c_S_partAt {l : Launch} {D : va_G} {ca : Nat → ClassId} {ad : Nat → Int → Nat → Nat} {L : List Nat} {aS vS : Nat → Nat} {sz : Nat} {K : zK}  {l0 : Int} {l1 : Int} {l2 : Int} {F F9 : zF} {B B9 : zB} {r : Int} (hf : f_S_partAt K l0 l1 l2 F B = some (r, F9, B9)) : Met l ({ cls := "StaveHouse", name := "partAt", desc := "(II)LStaveHouse$Part;" } : Jvm.MethodName) (Cond.code ({ cls := "StaveHouse", name := "partAt", desc := "(II)LStaveHouse$Part;" } : Jvm.MethodName) prog_1_method_7_code 4 (Option.some (Jvm.ClassFile.FieldType.object "StaveHouse$Part")) :: wAll) ({ frames := 1, cells := 0, slots := 0, locals := 21 } : Room) (va_Pc [.ref (ad 12 l0 0), .int (iI l1), .int (iI l2)] (zPre D ca ad lnC K.2 L aS vS F B sz)) (Q_S_partAt K D ca ad L r F9 B9 (zA L sz)) 0 0 (zA L sz) := by
  refine zMet (Qc := Q_S_partAt K D ca ad L r F9 B9) (lv := [(0, .ref (ad 12 l0 0)), (1, .int (iI l1)), (2, .int (iI l2))]) (by decide) (Nat.le_of_ble_eq_true rfl) rfl (fun A p e s m below meth c ls X hZ hS hl => ?_)
  obtain ⟨hx, hb, hr, hml, hown, hts, hlk, hK, hA, hL, hX⟩ := id X
  replace hf : (if 0 ≤ l0 ∧ l0 < K.2 12 then zbind (f_S_pieceAt K l0 l1 F B) (fun r2 F2 B2 => (if r2 < 0 then f_S_partAt_22 K F2 B2 else if r32 l2 then (if l2 < 0 then f_S_partAt_22 K F2 B2 else if 0 ≤ r2 ∧ r2 < K.2 6 then if r32 (F2 6 r2 1) then (if l2 < (F2 6 r2 1) then if 0 ≤ l2 ∧ l2 < 4 then f_S_partAt_32 K (B2 6 r2 0 l2) F2 B2 else none else f_S_partAt_22 K F2 B2) else none else none) else none)) else none) = some (r, F9, B9) := hf
  refine lv_aload_n hx hb (D_42 W_prog_1_method_7_code_0 0 rfl rfl) rfl (lv_at hl 0 rfl) ?_
  refine lv_iload_n hx hb (D_27 W_prog_1_method_7_code_0 1 rfl rfl) rfl (lv_at hl 1 rfl) ?_
  obtain ⟨g1, hf⟩ := gif hf
  obtain ⟨r2, F2, B2, hc2, hf⟩ := gbind hf
  refine va_callq (va_runV (As := [.int (iI l1)]) (rest := []) ⟨hx, hb, hml, hown, hts⟩ (c_S_pieceAt (l := l) hc2) (cwV 1 hts (gdV k_5_182 k_5_184 ks_65 k_1_1 k_5_185) rfl rfl rfl (by decide +kernel) ⟨Nat.le_of_ble_eq_true rfl, Nat.le_of_ble_eq_true rfl⟩) (zPV X hZ hS (ci := 12) g1.1 g1.2 (r := (RX12, TX12, 10)) rfl [.int (iI l1)]) rfl rfl hl.1 rfl (lv_room (Nat.le_of_ble_eq_true rfl)) (D_182 W_prog_1_method_7_code_0 2 rfl rfl rfl) ⟨Nat.le_of_ble_eq_true rfl, Nat.le_of_ble_eq_true rfl⟩) hS (fun q _ h => zAin X hS q h) (zAin X hS) (fun p2 u2 t2 H2 locs2 ht2 hv2 hw2 hB2 hz2 hk2 hS2 => ?_)
  have hZ2 := zBack X ht2 hB2
  subst hw2
  refine zastore_n (lv' := [(0, .ref (ad 12 l0 0)), (1, .int (iI l1)), (2, .int (iI l2))]) hx hb (D_78 W_prog_1_method_7_code_0 5 rfl rfl) rfl hl (by decide) (fun _ _ => rfl) (fun ls hl => ?_)
  refine zaload_n hx hb (D_45 W_prog_1_method_7_code_0 6 rfl rfl) rfl (lv_at hl 0 rfl) ?_
  refine zifnull (tgt := 22) hx hb (D_198 W_prog_1_method_7_code_0 7 rfl rfl rfl) (by decide) (fun h3 => ?_) (fun h3 => ?_)
  · replace hf := gpos hf h3
    exact b_S_partAt_22 X hf hZ2 hS2 (lv_sub hl [] rfl)
  · replace hf := gneg hf h3
    refine lv_iload_n hx hb (D_28 W_prog_1_method_7_code_0 10 rfl rfl) rfl (lv_at hl 3 rfl) ?_
    obtain ⟨g4, hf⟩ := gif hf
    refine z0lt (tgt := 22) hx hb g4 (D_155 W_prog_1_method_7_code_0 11 rfl rfl rfl) (by decide) (fun h5 => ?_) (fun h5 => ?_)
    · replace hf := gpos hf h5
      exact b_S_partAt_22 X hf hZ2 hS2 (lv_sub hl [] rfl)
    · replace hf := gneg hf h5
      refine lv_iload_n hx hb (D_28 W_prog_1_method_7_code_0 14 rfl rfl) rfl (lv_at hl 3 rfl) ?_
      refine zaload_n hx hb (D_45 W_prog_1_method_7_code_0 15 rfl rfl) rfl (lv_at hl 0 rfl) ?_
      obtain ⟨g6, hf⟩ := gif hf
      refine zunrf g6.1 ?_
      refine zget (ci := 6) (C := RX6) (T := TX6) (v := .int (iI (F2 6 r2 1))) (k := 1) hx hb hts inW_6 hown hK hZ2 g6.1 g6.2 rfl (by decide) k_2_194 rfl (D_180 W_prog_1_method_7_code_0 16 rfl rfl rfl) ?_
      obtain ⟨g7, hf⟩ := gif hf
      refine zlt (tgt := 26) hx hb g4 g7 (D_161 W_prog_1_method_7_code_0 19 rfl rfl rfl) (by decide) (fun h8 => ?_) (fun h8 => ?_)
      · replace hf := gpos hf h8
        refine zaload_n hx hb (D_45 W_prog_1_method_7_code_0 26 rfl rfl) rfl (lv_at hl 0 rfl) ?_
        refine zunrf g6.1 ?_
        refine zget (ci := 6) (C := RX6) (T := TX6) (v := .ref (ad 6 r2 (0 + 1))) (k := 0) hx hb hts inW_6 hown hK hZ2 g6.1 g6.2 rfl (by decide) k_2_189 rfl (D_180 W_prog_1_method_7_code_0 27 rfl rfl rfl) ?_
        refine lv_iload_n hx hb (D_28 W_prog_1_method_7_code_0 30 rfl rfl) rfl (lv_at hl 3 rfl) ?_
        obtain ⟨g9, hf⟩ := gif hf
        refine zaldR (t := 4) (x := 6) (ci := 6) (k := 0) hx hb hK rfl rfl hZ2 g6.1 g6.2 rfl (Nat.le_of_ble_eq_true rfl) g9.1 g9.2 (D_50 W_prog_1_method_7_code_0 31 rfl rfl) ?_
        exact b_S_partAt_32 X hf hZ2 hS2 (lv_sub hl [] rfl)
      · replace hf := gneg hf h8
        exact b_S_partAt_22 X hf hZ2 hS2 (lv_sub hl [] rfl)

abbrev Q_S_name (K : zK) (D : va_G) (ca : Nat → ClassId) (ad : Nat → Int → Nat → Nat) (L : List Nat) (r : Int) (F : zF) (B : zB) (A : Nat → Prop) : Array Value → State → Outcome → State → Prop := va_Ql (S := Unit) (fun p _ => p = lI r) (fun _ => zPo D ca ad lnC K.2 L F B A) A
def f_S_name_19 (K : zK) (s0 : Int) (F : zF) (B : zB) : zO := some (s0, F, B)
set_option maxHeartbeats 4000000 in
set_option maxRecDepth 100000 in
theorem b_S_name_19 {D : va_G} {ca : Nat → ClassId} {ad : Nat → Int → Nat → Nat} {L : List Nat} {aS vS : Nat → Nat} {A : Nat → Prop} {p : Program} {l : Launch} {e : Env} {s : State} {m : MethodId} {args : Array Value} {below : List Frame} {meth : Method} {c : Code} {K : zK} {r : Int} {F9 : zF} {B9 : zB} (X : zX D ca L aS vS A p s m args meth c prog_1_method_12_code 4 (Option.some Jvm.ClassFile.FieldType.long) "StaveHouse") {s0 : Int} {F : zF} {B : zB} {H : Heap} {locs : List Loc} {ls : Array Slot} (hf : f_S_name_19 K s0 F B = some (r, F9, B9)) (hZ : zH D ca ad lnC K.2 L F B A H) (hS : va_S A s.heap H locs) (hl : lv_has ls 4 []) : W p l e ({ frames := 2, cells := 0, slots := 0, locals := 44 } : Room) s m args below meth c H locs 0 0 (MQ below (Q_S_name K D ca ad L r F9 B9 A) args s 0 0 A) (F0 m 19 ls [.long (lI s0)]) := by
  obtain ⟨hx, hb, hr, hml, hown, hts, hlk, hK, hA, hL, hX⟩ := id X
  replace hf : (some (s0, F, B)) = some (r, F9, B9) := hf
  cases hf
  exact W.lret hx hb hr (fun t ht hW => ⟨⟨_, (), rfl, rfl, by rw [ht]; exact hZ, va_K.moved hW.alike hK⟩, hS.F ht⟩) hS.2.2 (D_173 W_prog_1_method_12_code_0 19 rfl rfl) hlk

def f_S_name (K : zK) (l0 : Int) (l1 : Int) (l2 : Int) (F : zF) (B : zB) : zO := if 0 ≤ l0 ∧ l0 < K.2 12 then zbind (f_S_partAt K l0 l1 l2 F B) (fun r2 F2 B2 => (if r2 < 0 then f_S_name_19 K 0 F2 B2 else if 0 ≤ r2 ∧ r2 < K.2 4 then f_S_name_19 K (F2 4 r2 0) F2 B2 else none)) else none
set_option maxHeartbeats 4000000 in
set_option maxRecDepth 100000 in
theorem c_S_name {l : Launch} {D : va_G} {ca : Nat → ClassId} {ad : Nat → Int → Nat → Nat} {L : List Nat} {aS vS : Nat → Nat} {sz : Nat} {K : zK}  {l0 : Int} {l1 : Int} {l2 : Int} {F F9 : zF} {B B9 : zB} {r : Int} (hf : f_S_name K l0 l1 l2 F B = some (r, F9, B9)) : Met l ({ cls := "StaveHouse", name := "name", desc := "(II)J" } : Jvm.MethodName) (Cond.code ({ cls := "StaveHouse", name := "name", desc := "(II)J" } : Jvm.MethodName) prog_1_method_12_code 4 (Option.some Jvm.ClassFile.FieldType.long) :: wAll) ({ frames := 2, cells := 0, slots := 0, locals := 44 } : Room) (va_Pc [.ref (ad 12 l0 0), .int (iI l1), .int (iI l2)] (zPre D ca ad lnC K.2 L aS vS F B sz)) (Q_S_name K D ca ad L r F9 B9 (zA L sz)) 0 0 (zA L sz) := by
  refine zMet (Qc := Q_S_name K D ca ad L r F9 B9) (lv := [(0, .ref (ad 12 l0 0)), (1, .int (iI l1)), (2, .int (iI l2))]) (by decide) (Nat.le_of_ble_eq_true rfl) rfl (fun A p e s m below meth c ls X hZ hS hl => ?_)
  obtain ⟨hx, hb, hr, hml, hown, hts, hlk, hK, hA, hL, hX⟩ := id X
  replace hf : (if 0 ≤ l0 ∧ l0 < K.2 12 then zbind (f_S_partAt K l0 l1 l2 F B) (fun r2 F2 B2 => (if r2 < 0 then f_S_name_19 K 0 F2 B2 else if 0 ≤ r2 ∧ r2 < K.2 4 then f_S_name_19 K (F2 4 r2 0) F2 B2 else none)) else none) = some (r, F9, B9) := hf
  refine lv_aload_n hx hb (D_42 W_prog_1_method_12_code_0 0 rfl rfl) rfl (lv_at hl 0 rfl) ?_
  refine lv_iload_n hx hb (D_27 W_prog_1_method_12_code_0 1 rfl rfl) rfl (lv_at hl 1 rfl) ?_
  refine lv_iload_n hx hb (D_28 W_prog_1_method_12_code_0 2 rfl rfl) rfl (lv_at hl 2 rfl) ?_
  obtain ⟨g1, hf⟩ := gif hf
  obtain ⟨r2, F2, B2, hc2, hf⟩ := gbind hf
  refine va_callq (va_runV (As := [.int (iI l1), .int (iI l2)]) (rest := []) ⟨hx, hb, hml, hown, hts⟩ (c_S_partAt (l := l) hc2) (cwV 2 hts (gdV k_6_168 k_6_170 ks_77 k_1_1 k_6_171) rfl rfl rfl (by decide +kernel) ⟨Nat.le_of_ble_eq_true rfl, Nat.le_of_ble_eq_true rfl⟩) (zPV X hZ hS (ci := 12) g1.1 g1.2 (r := (RX12, TX12, 10)) rfl [.int (iI l1), .int (iI l2)]) rfl rfl hl.1 rfl (lv_room (Nat.le_of_ble_eq_true rfl)) (D_182 W_prog_1_method_12_code_0 3 rfl rfl rfl) ⟨Nat.le_of_ble_eq_true rfl, Nat.le_of_ble_eq_true rfl⟩) hS (fun q _ h => zAin X hS q h) (zAin X hS) (fun p2 u2 t2 H2 locs2 ht2 hv2 hw2 hB2 hz2 hk2 hS2 => ?_)
  have hZ2 := zBack X ht2 hB2
  subst hw2
  refine zastore_n (lv' := [(0, .ref (ad 12 l0 0)), (1, .int (iI l1)), (2, .int (iI l2))]) hx hb (D_78 W_prog_1_method_12_code_0 6 rfl rfl) rfl hl (by decide) (fun _ _ => rfl) (fun ls hl => ?_)
  refine zaload_n hx hb (D_45 W_prog_1_method_12_code_0 7 rfl rfl) rfl (lv_at hl 0 rfl) ?_
  refine zifnonnull (tgt := 15) hx hb (D_199 W_prog_1_method_12_code_0 8 rfl rfl rfl) (by decide) (fun h3 => ?_) (fun h3 => ?_)
  · replace hf := gneg hf h3
    refine zaload_n hx hb (D_45 W_prog_1_method_12_code_0 15 rfl rfl) rfl (lv_at hl 0 rfl) ?_
    obtain ⟨g4, hf⟩ := gif hf
    refine zunrf g4.1 ?_
    refine zget (ci := 4) (C := RX4) (T := TX4) (v := .long (lI (F2 4 r2 0))) (k := 0) hx hb hts inW_4 hown hK hZ2 g4.1 g4.2 rfl (by decide) k_4_117 rfl (D_180 W_prog_1_method_12_code_0 16 rfl rfl rfl) ?_
    exact b_S_name_19 X hf hZ2 hS2 (lv_sub hl [] rfl)
  · replace hf := gpos hf h3
    refine lv_lconst (v := lI 0) hx hb (D_9 W_prog_1_method_12_code_0 11 rfl rfl) (by decide) ?_
    refine lv_goto (tgt := 19) hx hb (D_167 W_prog_1_method_12_code_0 12 rfl rfl rfl) (by decide) ?_
    exact b_S_name_19 X hf hZ2 hS2 (lv_sub hl [] rfl)

abbrev Q_S_eventAt (K : zK) (D : va_G) (ca : Nat → ClassId) (ad : Nat → Int → Nat → Nat) (L : List Nat) (r : Int) (F : zF) (B : zB) (A : Nat → Prop) : Array Value → State → Outcome → State → Prop := va_Qq (S := Unit) (fun p _ => p = zrf ad 1 r) (fun _ => zPo D ca ad lnC K.2 L F B A) A
def f_S_eventAt_37 (K : zK) (s0 : Int) (F : zF) (B : zB) : zO := some (s0, F, B)
set_option maxHeartbeats 4000000 in
set_option maxRecDepth 100000 in
theorem b_S_eventAt_37 {D : va_G} {ca : Nat → ClassId} {ad : Nat → Int → Nat → Nat} {L : List Nat} {aS vS : Nat → Nat} {A : Nat → Prop} {p : Program} {l : Launch} {e : Env} {s : State} {m : MethodId} {args : Array Value} {below : List Frame} {meth : Method} {c : Code} {K : zK} {r : Int} {F9 : zF} {B9 : zB} (X : zX D ca L aS vS A p s m args meth c prog_1_method_8_code 5 (Option.some (Jvm.ClassFile.FieldType.object "StaveHouse$Event")) "StaveHouse") {s0 : Int} {F : zF} {B : zB} {H : Heap} {locs : List Loc} {ls : Array Slot} (hf : f_S_eventAt_37 K s0 F B = some (r, F9, B9)) (hZ : zH D ca ad lnC K.2 L F B A H) (hS : va_S A s.heap H locs) (hl : lv_has ls 5 []) : W p l e ({ frames := 2, cells := 0, slots := 0, locals := 44 } : Room) s m args below meth c H locs 0 0 (MQ below (Q_S_eventAt K D ca ad L r F9 B9 A) args s 0 0 A) (F0 m 37 ls [va_rf (zrf ad 1 s0)]) := by
  obtain ⟨hx, hb, hr, hml, hown, hts, hlk, hK, hA, hL, hX⟩ := id X
  replace hf : (some (s0, F, B)) = some (r, F9, B9) := hf
  cases hf
  exact W.aret hx hb hr (Or.inl ⟨_, rfl⟩) (va_rf_or _) (fun t ht hW => ⟨⟨_, (), rfl, rfl, by rw [ht]; exact hZ, va_K.moved hW.alike hK⟩, hS.F ht⟩) hS.2.2 (D_176 W_prog_1_method_8_code_32 5 rfl rfl) hlk

def f_S_eventAt_26 (K : zK)  (F : zF) (B : zB) : zO := f_S_eventAt_37 K (-1) F B
set_option maxHeartbeats 4000000 in
set_option maxRecDepth 100000 in
theorem b_S_eventAt_26 {D : va_G} {ca : Nat → ClassId} {ad : Nat → Int → Nat → Nat} {L : List Nat} {aS vS : Nat → Nat} {A : Nat → Prop} {p : Program} {l : Launch} {e : Env} {s : State} {m : MethodId} {args : Array Value} {below : List Frame} {meth : Method} {c : Code} {K : zK} {r : Int} {F9 : zF} {B9 : zB} (X : zX D ca L aS vS A p s m args meth c prog_1_method_8_code 5 (Option.some (Jvm.ClassFile.FieldType.object "StaveHouse$Event")) "StaveHouse")  {F : zF} {B : zB} {H : Heap} {locs : List Loc} {ls : Array Slot} (hf : f_S_eventAt_26 K  F B = some (r, F9, B9)) (hZ : zH D ca ad lnC K.2 L F B A H) (hS : va_S A s.heap H locs) (hl : lv_has ls 5 []) : W p l e ({ frames := 2, cells := 0, slots := 0, locals := 44 } : Room) s m args below meth c H locs 0 0 (MQ below (Q_S_eventAt K D ca ad L r F9 B9 A) args s 0 0 A) (F0 m 26 ls []) := by
  obtain ⟨hx, hb, hr, hml, hown, hts, hlk, hK, hA, hL, hX⟩ := id X
  replace hf : (f_S_eventAt_37 K (-1) F B) = some (r, F9, B9) := hf
  refine lv_null hx hb (D_1 W_prog_1_method_8_code_0 26 rfl rfl) ?_
  refine W.eq (g2 := F0 m 27 ls [va_rf (zrf ad 1 (-1))]) rfl ?_
  refine lv_goto (tgt := 37) hx hb (D_167 W_prog_1_method_8_code_0 27 rfl rfl rfl) (by decide) ?_
  exact b_S_eventAt_37 X hf hZ hS (lv_sub hl [] rfl)

def f_S_eventAt (K : zK) (l0 : Int) (l1 : Int) (l2 : Int) (l3 : Int) (F : zF) (B : zB) : zO := if 0 ≤ l0 ∧ l0 < K.2 12 then zbind (f_S_partAt K l0 l1 l2 F B) (fun r2 F2 B2 => (if r2 < 0 then f_S_eventAt_26 K F2 B2 else if r32 l3 then (if l3 < 0 then f_S_eventAt_26 K F2 B2 else if 0 ≤ r2 ∧ r2 < K.2 4 then if r32 (F2 4 r2 6) then (if l3 < (F2 4 r2 6) then if 0 ≤ l3 ∧ l3 < 200 then f_S_eventAt_37 K (B2 4 r2 5 l3) F2 B2 else none else f_S_eventAt_26 K F2 B2) else none else none) else none)) else none
set_option maxHeartbeats 4000000 in
set_option maxRecDepth 100000 in
theorem c_S_eventAt {l : Launch} {D : va_G} {ca : Nat → ClassId} {ad : Nat → Int → Nat → Nat} {L : List Nat} {aS vS : Nat → Nat} {sz : Nat} {K : zK}  {l0 : Int} {l1 : Int} {l2 : Int} {l3 : Int} {F F9 : zF} {B B9 : zB} {r : Int} (hf : f_S_eventAt K l0 l1 l2 l3 F B = some (r, F9, B9)) : Met l ({ cls := "StaveHouse", name := "eventAt", desc := "(III)LStaveHouse$Event;" } : Jvm.MethodName) (Cond.code ({ cls := "StaveHouse", name := "eventAt", desc := "(III)LStaveHouse$Event;" } : Jvm.MethodName) prog_1_method_8_code 5 (Option.some (Jvm.ClassFile.FieldType.object "StaveHouse$Event")) :: wAll) ({ frames := 2, cells := 0, slots := 0, locals := 44 } : Room) (va_Pc [.ref (ad 12 l0 0), .int (iI l1), .int (iI l2), .int (iI l3)] (zPre D ca ad lnC K.2 L aS vS F B sz)) (Q_S_eventAt K D ca ad L r F9 B9 (zA L sz)) 0 0 (zA L sz) := by
  refine zMet (Qc := Q_S_eventAt K D ca ad L r F9 B9) (lv := [(0, .ref (ad 12 l0 0)), (1, .int (iI l1)), (2, .int (iI l2)), (3, .int (iI l3))]) (by decide) (Nat.le_of_ble_eq_true rfl) rfl (fun A p e s m below meth c ls X hZ hS hl => ?_)
  obtain ⟨hx, hb, hr, hml, hown, hts, hlk, hK, hA, hL, hX⟩ := id X
  replace hf : (if 0 ≤ l0 ∧ l0 < K.2 12 then zbind (f_S_partAt K l0 l1 l2 F B) (fun r2 F2 B2 => (if r2 < 0 then f_S_eventAt_26 K F2 B2 else if r32 l3 then (if l3 < 0 then f_S_eventAt_26 K F2 B2 else if 0 ≤ r2 ∧ r2 < K.2 4 then if r32 (F2 4 r2 6) then (if l3 < (F2 4 r2 6) then if 0 ≤ l3 ∧ l3 < 200 then f_S_eventAt_37 K (B2 4 r2 5 l3) F2 B2 else none else f_S_eventAt_26 K F2 B2) else none else none) else none)) else none) = some (r, F9, B9) := hf
  refine lv_aload_n hx hb (D_42 W_prog_1_method_8_code_0 0 rfl rfl) rfl (lv_at hl 0 rfl) ?_
  refine lv_iload_n hx hb (D_27 W_prog_1_method_8_code_0 1 rfl rfl) rfl (lv_at hl 1 rfl) ?_
  refine lv_iload_n hx hb (D_28 W_prog_1_method_8_code_0 2 rfl rfl) rfl (lv_at hl 2 rfl) ?_
  obtain ⟨g1, hf⟩ := gif hf
  obtain ⟨r2, F2, B2, hc2, hf⟩ := gbind hf
  refine va_callq (va_runV (As := [.int (iI l1), .int (iI l2)]) (rest := []) ⟨hx, hb, hml, hown, hts⟩ (c_S_partAt (l := l) hc2) (cwV 2 hts (gdV k_6_168 k_6_170 ks_77 k_1_1 k_6_171) rfl rfl rfl (by decide +kernel) ⟨Nat.le_of_ble_eq_true rfl, Nat.le_of_ble_eq_true rfl⟩) (zPV X hZ hS (ci := 12) g1.1 g1.2 (r := (RX12, TX12, 10)) rfl [.int (iI l1), .int (iI l2)]) rfl rfl hl.1 rfl (lv_room (Nat.le_of_ble_eq_true rfl)) (D_182 W_prog_1_method_8_code_0 3 rfl rfl rfl) ⟨Nat.le_of_ble_eq_true rfl, Nat.le_of_ble_eq_true rfl⟩) hS (fun q _ h => zAin X hS q h) (zAin X hS) (fun p2 u2 t2 H2 locs2 ht2 hv2 hw2 hB2 hz2 hk2 hS2 => ?_)
  have hZ2 := zBack X ht2 hB2
  subst hw2
  refine zastore (lv' := [(0, .ref (ad 12 l0 0)), (1, .int (iI l1)), (2, .int (iI l2)), (3, .int (iI l3))]) hx hb (D_58 W_prog_1_method_8_code_0 6 rfl rfl) hl (by decide) (fun _ _ => rfl) (fun ls hl => ?_)
  refine zaload hx hb (D_25 W_prog_1_method_8_code_0 8 rfl rfl) (lv_at hl 0 rfl) ?_
  refine zifnull (tgt := 26) hx hb (D_198 W_prog_1_method_8_code_0 10 rfl rfl rfl) (by decide) (fun h3 => ?_) (fun h3 => ?_)
  · replace hf := gpos hf h3
    exact b_S_eventAt_26 X hf hZ2 hS2 (lv_sub hl [] rfl)
  · replace hf := gneg hf h3
    refine lv_iload_n hx hb (D_29 W_prog_1_method_8_code_0 13 rfl rfl) rfl (lv_at hl 4 rfl) ?_
    obtain ⟨g4, hf⟩ := gif hf
    refine z0lt (tgt := 26) hx hb g4 (D_155 W_prog_1_method_8_code_0 14 rfl rfl rfl) (by decide) (fun h5 => ?_) (fun h5 => ?_)
    · replace hf := gpos hf h5
      exact b_S_eventAt_26 X hf hZ2 hS2 (lv_sub hl [] rfl)
    · replace hf := gneg hf h5
      refine lv_iload_n hx hb (D_29 W_prog_1_method_8_code_0 17 rfl rfl) rfl (lv_at hl 4 rfl) ?_
      refine zaload hx hb (D_25 W_prog_1_method_8_code_0 18 rfl rfl) (lv_at hl 0 rfl) ?_
      obtain ⟨g6, hf⟩ := gif hf
      refine zunrf g6.1 ?_
      refine zget (ci := 4) (C := RX4) (T := TX4) (v := .int (iI (F2 4 r2 6))) (k := 6) hx hb hts inW_4 hown hK hZ2 g6.1 g6.2 rfl (by decide) k_4_138 rfl (D_180 W_prog_1_method_8_code_0 20 rfl rfl rfl) ?_
      obtain ⟨g7, hf⟩ := gif hf
      refine zlt (tgt := 30) hx hb g4 g7 (D_161 W_prog_1_method_8_code_0 23 rfl rfl rfl) (by decide) (fun h8 => ?_) (fun h8 => ?_)
      · replace hf := gpos hf h8
        refine zaload hx hb (D_25 W_prog_1_method_8_code_0 30 rfl rfl) (lv_at hl 0 rfl) ?_
        refine zunrf g6.1 ?_
        refine zget (ci := 4) (C := RX4) (T := TX4) (v := .ref (ad 4 r2 (5 + 1))) (k := 5) hx hb hts inW_4 hown hK hZ2 g6.1 g6.2 rfl (by decide) k_4_133 rfl (D_180 W_prog_1_method_8_code_32 0 rfl rfl rfl) ?_
        refine lv_iload_n hx hb (D_29 W_prog_1_method_8_code_32 3 rfl rfl) rfl (lv_at hl 4 rfl) ?_
        obtain ⟨g9, hf⟩ := gif hf
        refine zaldR (t := 1) (x := 7) (ci := 4) (k := 5) hx hb hK rfl rfl hZ2 g6.1 g6.2 rfl (Nat.le_of_ble_eq_true rfl) g9.1 g9.2 (D_50 W_prog_1_method_8_code_32 4 rfl rfl) ?_
        exact b_S_eventAt_37 X hf hZ2 hS2 (lv_sub hl [] rfl)
      · replace hf := gneg hf h8
        exact b_S_eventAt_26 X hf hZ2 hS2 (lv_sub hl [] rfl)

abbrev Q_S_gcd (K : zK) (D : va_G) (ca : Nat → ClassId) (ad : Nat → Int → Nat → Nat) (L : List Nat) (r : Int) (F : zF) (B : zB) (A : Nat → Prop) : Array Value → State → Outcome → State → Prop := va_Ql (S := Unit) (fun p _ => p = lI r) (fun _ => zPo D ca ad lnC K.2 L F B A) A
def f_S_gcd_45 (K : zK) (l4 : Int) (F : zF) (B : zB) : zO := some (l4, F, B)
set_option maxHeartbeats 4000000 in
set_option maxRecDepth 100000 in
theorem b_S_gcd_45 {D : va_G} {ca : Nat → ClassId} {ad : Nat → Int → Nat → Nat} {L : List Nat} {aS vS : Nat → Nat} {A : Nat → Prop} {p : Program} {l : Launch} {e : Env} {s : State} {m : MethodId} {args : Array Value} {below : List Frame} {meth : Method} {c : Code} {K : zK} {r : Int} {F9 : zF} {B9 : zB} (X : zX D ca L aS vS A p s m args meth c prog_1_method_34_code 11 (Option.some Jvm.ClassFile.FieldType.long) "StaveHouse") {l4 : Int} {F : zF} {B : zB} {H : Heap} {locs : List Loc} {ls : Array Slot} (hf : f_S_gcd_45 K l4 F B = some (r, F9, B9)) (hZ : zH D ca ad lnC K.2 L F B A H) (hS : va_S A s.heap H locs) (hl : lv_has ls 11 [(4, .long (lI l4))]) : W p l e ({ frames := 0, cells := 0, slots := 0, locals := 0 } : Room) s m args below meth c H locs 0 0 (MQ below (Q_S_gcd K D ca ad L r F9 B9 A) args s 0 0 A) (F0 m 45 ls []) := by
  obtain ⟨hx, hb, hr, hml, hown, hts, hlk, hK, hA, hL, hX⟩ := id X
  replace hf : (some (l4, F, B)) = some (r, F9, B9) := hf
  refine lv_lload hx hb (D_22 W_prog_1_method_34_code_32 13 rfl rfl) (lv_at hl 0 rfl) ?_
  cases hf
  exact W.lret hx hb hr (fun t ht hW => ⟨⟨_, (), rfl, rfl, by rw [ht]; exact hZ, va_K.moved hW.alike hK⟩, hS.F ht⟩) hS.2.2 (D_173 W_prog_1_method_34_code_32 15 rfl rfl) hlk

def f_S_gcd_9 (K : zK) : Nat → Int → Int → Int → zF → zB → zO
  | 0, _, _, _, _, _ => none
  | n + 1, l8, l6, l4, F, B => if r32 l8 then (if 200 ≤ l8 then f_S_gcd_45 K l4 F B else if r64 l6 then (if (zcmp l6 0) = 0 then f_S_gcd_45 K l4 F B else if ¬ lI l6 = 0 then f_S_gcd_9 K n (l8 + 1) (zlrm l4 l6) l6 F B else none) else none) else none
set_option maxHeartbeats 4000000 in
set_option maxRecDepth 100000 in
theorem b_S_gcd_9 {D : va_G} {ca : Nat → ClassId} {ad : Nat → Int → Nat → Nat} {L : List Nat} {aS vS : Nat → Nat} {A : Nat → Prop} {p : Program} {l : Launch} {e : Env} {s : State} {m : MethodId} {args : Array Value} {below : List Frame} {meth : Method} {c : Code} {K : zK} {r : Int} {F9 : zF} {B9 : zB} (X : zX D ca L aS vS A p s m args meth c prog_1_method_34_code 11 (Option.some Jvm.ClassFile.FieldType.long) "StaveHouse") : ∀ {n : Nat} {l8 : Int} {l6 : Int} {l4 : Int} {F : zF} {B : zB} {H : Heap} {locs : List Loc} {ls : Array Slot}, f_S_gcd_9 K n l8 l6 l4 F B = some (r, F9, B9) → zH D ca ad lnC K.2 L F B A H → va_S A s.heap H locs → lv_has ls 11 [(8, .int (iI l8)), (6, .long (lI l6)), (4, .long (lI l4))] → W p l e ({ frames := 0, cells := 0, slots := 0, locals := 0 } : Room) s m args below meth c H locs 0 0 (MQ below (Q_S_gcd K D ca ad L r F9 B9 A) args s 0 0 A) (F0 m 9 ls []) := by
  obtain ⟨hx, hb, hr, hml, hown, hts, hlk, hK, hA, hL, hX⟩ := id X
  intro n
  induction n with
  | zero =>
    intros
    rename_i hf _ _ _
    cases hf
  | succ n ih =>
    intro l8 l6 l4 F B H locs ls hf hZ hS hl
    replace hf : (if r32 l8 then (if 200 ≤ l8 then f_S_gcd_45 K l4 F B else if r64 l6 then (if (zcmp l6 0) = 0 then f_S_gcd_45 K l4 F B else if ¬ lI l6 = 0 then f_S_gcd_9 K n (l8 + 1) (zlrm l4 l6) l6 F B else none) else none) else none) = some (r, F9, B9) := hf
    refine lv_iload hx hb (D_21 W_prog_1_method_34_code_0 9 rfl rfl) (lv_at hl 0 rfl) ?_
    refine lv_sipush (v := iI 200) hx hb (D_17 W_prog_1_method_34_code_0 11 rfl rfl rfl) (by decide) ?_
    obtain ⟨g1, hf⟩ := gif hf
    refine zge (tgt := 45) hx hb g1 (by decide) (D_162 W_prog_1_method_34_code_0 14 rfl rfl rfl) (by decide) (fun h2 => ?_) (fun h2 => ?_)
    · replace hf := gpos hf h2
      exact b_S_gcd_45 X hf hZ hS (lv_sub hl [2] rfl)
    · replace hf := gneg hf h2
      refine lv_lload hx hb (D_22 W_prog_1_method_34_code_0 17 rfl rfl) (lv_at hl 1 rfl) ?_
      refine lv_lconst (v := lI 0) hx hb (D_9 W_prog_1_method_34_code_0 19 rfl rfl) (by decide) ?_
      obtain ⟨g3, hf⟩ := gif hf
      refine zcmp_r hx hb g3 (by decide) (D_148 W_prog_1_method_34_code_0 20 rfl rfl) ?_
      refine z0eq (tgt := 45) hx hb zcmp_32 (D_153 W_prog_1_method_34_code_0 21 rfl rfl rfl) (by decide) (fun h4 => ?_) (fun h4 => ?_)
      · replace hf := gpos hf h4
        exact b_S_gcd_45 X hf hZ hS (lv_sub hl [2] rfl)
      · replace hf := gneg hf h4
        refine lv_lload hx hb (D_22 W_prog_1_method_34_code_0 24 rfl rfl) (lv_at hl 2 rfl) ?_
        refine lv_lload hx hb (D_22 W_prog_1_method_34_code_0 26 rfl rfl) (lv_at hl 1 rfl) ?_
        obtain ⟨g5, hf⟩ := gif hf
        refine zlrm_r hx hb g5 (D_113 W_prog_1_method_34_code_0 28 rfl rfl) ?_
        refine lv_lstore (lv' := [(9, .long (lI (zlrm l4 l6))), (8, .int (iI l8)), (6, .long (lI l6)), (4, .long (lI l4))]) hx hb (D_55 W_prog_1_method_34_code_0 29 rfl rfl) hl (by decide) rfl (fun ls hl => ?_)
        refine lv_lload hx hb (D_22 W_prog_1_method_34_code_0 31 rfl rfl) (lv_at hl 2 rfl) ?_
        refine lv_lstore (lv' := [(4, .long (lI l6)), (9, .long (lI (zlrm l4 l6))), (8, .int (iI l8)), (6, .long (lI l6))]) hx hb (D_55 W_prog_1_method_34_code_32 1 rfl rfl) hl (by decide) rfl (fun ls hl => ?_)
        refine lv_lload hx hb (D_22 W_prog_1_method_34_code_32 3 rfl rfl) (lv_at hl 1 rfl) ?_
        refine lv_lstore (lv' := [(6, .long (lI (zlrm l4 l6))), (4, .long (lI l6)), (9, .long (lI (zlrm l4 l6))), (8, .int (iI l8))]) hx hb (D_55 W_prog_1_method_34_code_32 5 rfl rfl) hl (by decide) rfl (fun ls hl => ?_)
        refine lv_iinc (v := iI (l8 + 1)) (lv' := [(8, .int (iI (l8 + 1))), (6, .long (lI (zlrm l4 l6))), (4, .long (lI l6)), (9, .long (lI (zlrm l4 l6)))]) hx hb d_1_34_39 hl (k := 3) rfl (iI_add _ 1) (by decide) rfl (fun ls hl => ?_)
        refine lv_goto (tgt := 9) hx hb (D_167 W_prog_1_method_34_code_32 10 rfl rfl rfl) (by decide) ?_
        exact ih hf hZ hS (lv_sub hl [0, 1, 2] rfl)

def f_S_gcd (K : zK) (l0 : Int) (l2 : Int) (F : zF) (B : zB) : zO := f_S_gcd_9 K K.1 0 l2 l0 F B
set_option maxHeartbeats 4000000 in
set_option maxRecDepth 100000 in
theorem c_S_gcd {l : Launch} {D : va_G} {ca : Nat → ClassId} {ad : Nat → Int → Nat → Nat} {L : List Nat} {aS vS : Nat → Nat} {sz : Nat} {K : zK}  {l0 : Int} {l2 : Int} {F F9 : zF} {B B9 : zB} {r : Int} (hf : f_S_gcd K l0 l2 F B = some (r, F9, B9)) : Met l ({ cls := "StaveHouse", name := "gcd", desc := "(JJ)J" } : Jvm.MethodName) (Cond.code ({ cls := "StaveHouse", name := "gcd", desc := "(JJ)J" } : Jvm.MethodName) prog_1_method_34_code 11 (Option.some Jvm.ClassFile.FieldType.long) :: wAll) ({ frames := 0, cells := 0, slots := 0, locals := 0 } : Room) (va_Pc [.long (lI l0), .long (lI l2)] (zPre D ca ad lnC K.2 L aS vS F B sz)) (Q_S_gcd K D ca ad L r F9 B9 (zA L sz)) 0 0 (zA L sz) := by
  refine zMet (Qc := Q_S_gcd K D ca ad L r F9 B9) (lv := [(0, .long (lI l0)), (2, .long (lI l2))]) (by decide) (Nat.le_of_ble_eq_true rfl) rfl (fun A p e s m below meth c ls X hZ hS hl => ?_)
  obtain ⟨hx, hb, hr, hml, hown, hts, hlk, hK, hA, hL, hX⟩ := id X
  replace hf : (f_S_gcd_9 K K.1 0 l2 l0 F B) = some (r, F9, B9) := hf
  refine lv_lload_n hx hb (D_30 W_prog_1_method_34_code_0 0 rfl rfl) rfl (lv_at hl 0 rfl) ?_
  refine lv_lstore (lv' := [(4, .long (lI l0)), (0, .long (lI l0)), (2, .long (lI l2))]) hx hb (D_55 W_prog_1_method_34_code_0 1 rfl rfl) hl (by decide) rfl (fun ls hl => ?_)
  refine lv_lload_n hx hb (D_32 W_prog_1_method_34_code_0 3 rfl rfl) rfl (lv_at hl 2 rfl) ?_
  refine lv_lstore (lv' := [(6, .long (lI l2)), (4, .long (lI l0)), (0, .long (lI l0)), (2, .long (lI l2))]) hx hb (D_55 W_prog_1_method_34_code_0 4 rfl rfl) hl (by decide) rfl (fun ls hl => ?_)
  refine lv_iconst (v := iI 0) hx hb (D_3 W_prog_1_method_34_code_0 6 rfl rfl) rfl ?_
  refine lv_istore (lv' := [(8, .int (iI 0)), (6, .long (lI l2)), (4, .long (lI l0)), (0, .long (lI l0)), (2, .long (lI l2))]) hx hb (D_54 W_prog_1_method_34_code_0 7 rfl rfl) hl (by decide) rfl (fun ls hl => ?_)
  exact b_S_gcd_9 X hf hZ hS (lv_sub hl [0, 1, 2] rfl)

abbrev Q_S_below (K : zK) (D : va_G) (ca : Nat → ClassId) (ad : Nat → Int → Nat → Nat) (L : List Nat) (r : Int) (F : zF) (B : zB) (A : Nat → Prop) : Array Value → State → Outcome → State → Prop := va_Ql (S := Unit) (fun p _ => p = lI r) (fun _ => zPo D ca ad lnC K.2 L F B A) A
def f_S_below_25 (K : zK) (s0 : Int) (F : zF) (B : zB) : zO := some (s0, F, B)
set_option maxHeartbeats 4000000 in
set_option maxRecDepth 100000 in
theorem b_S_below_25 {D : va_G} {ca : Nat → ClassId} {ad : Nat → Int → Nat → Nat} {L : List Nat} {aS vS : Nat → Nat} {A : Nat → Prop} {p : Program} {l : Launch} {e : Env} {s : State} {m : MethodId} {args : Array Value} {below : List Frame} {meth : Method} {c : Code} {K : zK} {r : Int} {F9 : zF} {B9 : zB} (X : zX D ca L aS vS A p s m args meth c prog_1_method_36_code 4 (Option.some Jvm.ClassFile.FieldType.long) "StaveHouse") {s0 : Int} {F : zF} {B : zB} {H : Heap} {locs : List Loc} {ls : Array Slot} (hf : f_S_below_25 K s0 F B = some (r, F9, B9)) (hZ : zH D ca ad lnC K.2 L F B A H) (hS : va_S A s.heap H locs) (hl : lv_has ls 4 []) : W p l e ({ frames := 1, cells := 0, slots := 0, locals := 30 } : Room) s m args below meth c H locs 0 0 (MQ below (Q_S_below K D ca ad L r F9 B9 A) args s 0 0 A) (F0 m 25 ls [.long (lI s0)]) := by
  obtain ⟨hx, hb, hr, hml, hown, hts, hlk, hK, hA, hL, hX⟩ := id X
  replace hf : (some (s0, F, B)) = some (r, F9, B9) := hf
  cases hf
  exact W.lret hx hb hr (fun t ht hW => ⟨⟨_, (), rfl, rfl, by rw [ht]; exact hZ, va_K.moved hW.alike hK⟩, hS.F ht⟩) hS.2.2 (D_173 W_prog_1_method_36_code_0 25 rfl rfl) hlk

def f_S_below (K : zK) (l0 : Int) (F : zF) (B : zB) : zO := zbind (f_S_gcd K l0 812851200 F B) (fun r1 F1 B1 => if r64 r1 then (if (zcmp r1 0) = 0 then f_S_below_25 K 812851200 F1 B1 else if ¬ lI r1 = 0 then f_S_below_25 K (zldv 812851200 r1) F1 B1 else none) else none)
set_option maxHeartbeats 4000000 in
set_option maxRecDepth 100000 in
theorem c_S_below {l : Launch} {D : va_G} {ca : Nat → ClassId} {ad : Nat → Int → Nat → Nat} {L : List Nat} {aS vS : Nat → Nat} {sz : Nat} {K : zK}  {l0 : Int} {F F9 : zF} {B B9 : zB} {r : Int} (hf : f_S_below K l0 F B = some (r, F9, B9)) : Met l ({ cls := "StaveHouse", name := "below", desc := "(J)J" } : Jvm.MethodName) (Cond.code ({ cls := "StaveHouse", name := "below", desc := "(J)J" } : Jvm.MethodName) prog_1_method_36_code 4 (Option.some Jvm.ClassFile.FieldType.long) :: wAll) ({ frames := 1, cells := 0, slots := 0, locals := 30 } : Room) (va_Pc [.long (lI l0)] (zPre D ca ad lnC K.2 L aS vS F B sz)) (Q_S_below K D ca ad L r F9 B9 (zA L sz)) 0 0 (zA L sz) := by
  refine zMet (Qc := Q_S_below K D ca ad L r F9 B9) (lv := [(0, .long (lI l0))]) (by decide) (Nat.le_of_ble_eq_true rfl) rfl (fun A p e s m below meth c ls X hZ hS hl => ?_)
  obtain ⟨hx, hb, hr, hml, hown, hts, hlk, hK, hA, hL, hX⟩ := id X
  replace hf : (zbind (f_S_gcd K l0 812851200 F B) (fun r1 F1 B1 => if r64 r1 then (if (zcmp r1 0) = 0 then f_S_below_25 K 812851200 F1 B1 else if ¬ lI r1 = 0 then f_S_below_25 K (zldv 812851200 r1) F1 B1 else none) else none)) = some (r, F9, B9) := hf
  refine lv_lload_n hx hb (D_30 W_prog_1_method_36_code_0 0 rfl rfl) rfl (lv_at hl 0 rfl) ?_
  refine lv_ldc2 hx hb hown (hts _ k_6_188) (D_20 W_prog_1_method_36_code_0 1 rfl rfl rfl) ?_
  refine W.eq (g2 := F0 m 4 ls [.long (lI 812851200), .long (lI l0)]) rfl ?_
  obtain ⟨r1, F1, B1, hc1, hf⟩ := gbind hf
  refine va_calll (va_runS (As := [.long (lI l0), .long (lI 812851200)]) (rest := []) ⟨hx, hb, hml, hown, hts⟩ (c_S_gcd (l := l) hc1) (va_cwS 2 hts (gdS k_6_189 k_6_190 k_1_1 k_6_191) rfl rfl rfl (by decide +kernel) ⟨Nat.le_of_ble_eq_true rfl, Nat.le_of_ble_eq_true rfl⟩) (zPS X hZ hS [.long (lI l0), .long (lI 812851200)]) rfl rfl hl.1 rfl (lv_room (Nat.le_of_ble_eq_true rfl)) (D_184 W_prog_1_method_36_code_0 4 rfl rfl rfl) ⟨Nat.le_of_ble_eq_true rfl, Nat.le_of_ble_eq_true rfl⟩) hS (fun q _ h => zAin X hS q h) (zAin X hS) (fun p1 u1 t1 H1 locs1 ht1 hv1 hw1 hB1 hz1 hk1 hS1 => ?_)
  have hZ1 := zBack X ht1 hB1
  subst hw1
  refine lv_lstore_n (lv' := [(2, .long (lI r1)), (0, .long (lI l0))]) hx hb (D_65 W_prog_1_method_36_code_0 7 rfl rfl) rfl hl (by decide) rfl (fun ls hl => ?_)
  refine lv_lload_n hx hb (D_32 W_prog_1_method_36_code_0 8 rfl rfl) rfl (lv_at hl 0 rfl) ?_
  refine lv_lconst (v := lI 0) hx hb (D_9 W_prog_1_method_36_code_0 9 rfl rfl) (by decide) ?_
  obtain ⟨g2, hf⟩ := gif hf
  refine zcmp_r hx hb g2 (by decide) (D_148 W_prog_1_method_36_code_0 10 rfl rfl) ?_
  refine z0ne (tgt := 20) hx hb zcmp_32 (D_154 W_prog_1_method_36_code_0 11 rfl rfl rfl) (by decide) (fun h3 => ?_) (fun h3 => ?_)
  · replace hf := gneg hf h3
    refine lv_ldc2 hx hb hown (hts _ k_6_188) (D_20 W_prog_1_method_36_code_0 20 rfl rfl rfl) ?_
    refine W.eq (g2 := F0 m 23 ls [.long (lI 812851200)]) rfl ?_
    refine lv_lload_n hx hb (D_32 W_prog_1_method_36_code_0 23 rfl rfl) rfl (lv_at hl 0 rfl) ?_
    obtain ⟨g4, hf⟩ := gif hf
    refine zldv_r hx hb g4 (D_109 W_prog_1_method_36_code_0 24 rfl rfl) ?_
    exact b_S_below_25 X hf hZ1 hS1 (lv_sub hl [] rfl)
  · replace hf := gpos hf h3
    refine lv_ldc2 hx hb hown (hts _ k_6_188) (D_20 W_prog_1_method_36_code_0 14 rfl rfl rfl) ?_
    refine W.eq (g2 := F0 m 17 ls [.long (lI 812851200)]) rfl ?_
    refine lv_goto (tgt := 25) hx hb (D_167 W_prog_1_method_36_code_0 17 rfl rfl rfl) (by decide) ?_
    exact b_S_below_25 X hf hZ1 hS1 (lv_sub hl [] rfl)

abbrev Q_Layout_beginsIn (K : zK) (D : va_G) (ca : Nat → ClassId) (ad : Nat → Int → Nat → Nat) (L : List Nat) (r : Int) (F : zF) (B : zB) (A : Nat → Prop) : Array Value → State → Outcome → State → Prop := va_Qi (S := Unit) (fun p _ => p = iI r) (fun _ => zPo D ca ad lnC K.2 L F B A) A
def f_Layout_beginsIn_25 (K : zK) (s0 : Int) (F : zF) (B : zB) : zO := if (s0 = 0 ∨ s0 = 1) then some (s0, F, B) else none
set_option maxHeartbeats 4000000 in
set_option maxRecDepth 100000 in
theorem b_Layout_beginsIn_25 {D : va_G} {ca : Nat → ClassId} {ad : Nat → Int → Nat → Nat} {L : List Nat} {aS vS : Nat → Nat} {A : Nat → Prop} {p : Program} {l : Launch} {e : Env} {s : State} {m : MethodId} {args : Array Value} {below : List Frame} {meth : Method} {c : Code} {K : zK} {r : Int} {F9 : zF} {B9 : zB} (X : zX D ca L aS vS A p s m args meth c prog_4_method_6_code 3 (Option.some Jvm.ClassFile.FieldType.boolean) "StaveHouse$Layout") {s0 : Int} {F : zF} {B : zB} {H : Heap} {locs : List Loc} {ls : Array Slot} (hf : f_Layout_beginsIn_25 K s0 F B = some (r, F9, B9)) (hZ : zH D ca ad lnC K.2 L F B A H) (hS : va_S A s.heap H locs) (hl : lv_has ls 3 []) : W p l e ({ frames := 0, cells := 0, slots := 0, locals := 0 } : Room) s m args below meth c H locs 0 0 (MQ below (Q_Layout_beginsIn K D ca ad L r F9 B9 A) args s 0 0 A) (F0 m 25 ls [.int (iI s0)]) := by
  obtain ⟨hx, hb, hr, hml, hown, hts, hlk, hK, hA, hL, hX⟩ := id X
  replace hf : (if (s0 = 0 ∨ s0 = 1) then some (s0, F, B) else none) = some (r, F9, B9) := hf
  obtain ⟨g9, hf⟩ := gif hf
  cases hf
  exact W.zret hx hb hr (zbool g9) (fun t ht hW => ⟨⟨_, (), rfl, rfl, by rw [ht]; exact hZ, va_K.moved hW.alike hK⟩, hS.F ht⟩) hS.2.2 (D_172 W_prog_4_method_6_code_0 25 rfl rfl) hlk

def f_Layout_beginsIn_24 (K : zK)  (F : zF) (B : zB) : zO := f_Layout_beginsIn_25 K 0 F B
set_option maxHeartbeats 4000000 in
set_option maxRecDepth 100000 in
theorem b_Layout_beginsIn_24 {D : va_G} {ca : Nat → ClassId} {ad : Nat → Int → Nat → Nat} {L : List Nat} {aS vS : Nat → Nat} {A : Nat → Prop} {p : Program} {l : Launch} {e : Env} {s : State} {m : MethodId} {args : Array Value} {below : List Frame} {meth : Method} {c : Code} {K : zK} {r : Int} {F9 : zF} {B9 : zB} (X : zX D ca L aS vS A p s m args meth c prog_4_method_6_code 3 (Option.some Jvm.ClassFile.FieldType.boolean) "StaveHouse$Layout")  {F : zF} {B : zB} {H : Heap} {locs : List Loc} {ls : Array Slot} (hf : f_Layout_beginsIn_24 K  F B = some (r, F9, B9)) (hZ : zH D ca ad lnC K.2 L F B A H) (hS : va_S A s.heap H locs) (hl : lv_has ls 3 []) : W p l e ({ frames := 0, cells := 0, slots := 0, locals := 0 } : Room) s m args below meth c H locs 0 0 (MQ below (Q_Layout_beginsIn K D ca ad L r F9 B9 A) args s 0 0 A) (F0 m 24 ls []) := by
  obtain ⟨hx, hb, hr, hml, hown, hts, hlk, hK, hA, hL, hX⟩ := id X
  replace hf : (f_Layout_beginsIn_25 K 0 F B) = some (r, F9, B9) := hf
  refine lv_iconst (v := iI 0) hx hb (D_3 W_prog_4_method_6_code_0 24 rfl rfl) rfl ?_
  exact b_Layout_beginsIn_25 X hf hZ hS (lv_sub hl [] rfl)

def f_Layout_beginsIn (K : zK) (l0 : Int) (l1 : Int) (l2 : Int) (F : zF) (B : zB) : zO := if 0 ≤ l0 ∧ l0 < K.2 4 then if r32 l1 then if r32 (F 4 l0 10) then (if (F 4 l0 10) ≤ l1 then f_Layout_beginsIn_24 K F B else if 0 ≤ l1 ∧ l1 < 800 then if r32 (B 4 l0 361 l1) then if r32 l2 then (if (B 4 l0 361 l1) = l2 then f_Layout_beginsIn_25 K 1 F B else f_Layout_beginsIn_24 K F B) else none else none else none) else none else none else none
set_option maxHeartbeats 4000000 in
set_option maxRecDepth 100000 in
theorem c_Layout_beginsIn {l : Launch} {D : va_G} {ca : Nat → ClassId} {ad : Nat → Int → Nat → Nat} {L : List Nat} {aS vS : Nat → Nat} {sz : Nat} {K : zK}  {l0 : Int} {l1 : Int} {l2 : Int} {F F9 : zF} {B B9 : zB} {r : Int} (hf : f_Layout_beginsIn K l0 l1 l2 F B = some (r, F9, B9)) : Met l ({ cls := "StaveHouse$Layout", name := "beginsIn", desc := "(LStaveHouse$Part;II)Z" } : Jvm.MethodName) (Cond.code ({ cls := "StaveHouse$Layout", name := "beginsIn", desc := "(LStaveHouse$Part;II)Z" } : Jvm.MethodName) prog_4_method_6_code 3 (Option.some Jvm.ClassFile.FieldType.boolean) :: wAll) ({ frames := 0, cells := 0, slots := 0, locals := 0 } : Room) (va_Pc [.ref (ad 4 l0 0), .int (iI l1), .int (iI l2)] (zPre D ca ad lnC K.2 L aS vS F B sz)) (Q_Layout_beginsIn K D ca ad L r F9 B9 (zA L sz)) 0 0 (zA L sz) := by
  refine zMet (Qc := Q_Layout_beginsIn K D ca ad L r F9 B9) (lv := [(0, .ref (ad 4 l0 0)), (1, .int (iI l1)), (2, .int (iI l2))]) (by decide) (Nat.le_of_ble_eq_true rfl) rfl (fun A p e s m below meth c ls X hZ hS hl => ?_)
  obtain ⟨hx, hb, hr, hml, hown, hts, hlk, hK, hA, hL, hX⟩ := id X
  replace hf : (if 0 ≤ l0 ∧ l0 < K.2 4 then if r32 l1 then if r32 (F 4 l0 10) then (if (F 4 l0 10) ≤ l1 then f_Layout_beginsIn_24 K F B else if 0 ≤ l1 ∧ l1 < 800 then if r32 (B 4 l0 361 l1) then if r32 l2 then (if (B 4 l0 361 l1) = l2 then f_Layout_beginsIn_25 K 1 F B else f_Layout_beginsIn_24 K F B) else none else none else none) else none else none else none) = some (r, F9, B9) := hf
  refine lv_iload_n hx hb (D_27 W_prog_4_method_6_code_0 0 rfl rfl) rfl (lv_at hl 1 rfl) ?_
  refine lv_aload_n hx hb (D_42 W_prog_4_method_6_code_0 1 rfl rfl) rfl (lv_at hl 0 rfl) ?_
  obtain ⟨g1, hf⟩ := gif hf
  refine zget (ci := 4) (C := RX4) (T := TX4) (v := .int (iI (F 4 l0 10))) (k := 10) hx hb hts inW_4 hown hK hZ g1.1 g1.2 rfl (by decide) k_4_149 rfl (D_180 W_prog_4_method_6_code_0 2 rfl rfl rfl) ?_
  obtain ⟨g2, hf⟩ := gif hf
  obtain ⟨g3, hf⟩ := gif hf
  refine zge (tgt := 24) hx hb g2 g3 (D_162 W_prog_4_method_6_code_0 5 rfl rfl rfl) (by decide) (fun h4 => ?_) (fun h4 => ?_)
  · replace hf := gpos hf h4
    exact b_Layout_beginsIn_24 X hf hZ hS (lv_sub hl [] rfl)
  · replace hf := gneg hf h4
    refine lv_aload_n hx hb (D_42 W_prog_4_method_6_code_0 8 rfl rfl) rfl (lv_at hl 0 rfl) ?_
    refine zget (ci := 4) (C := RX4) (T := TX4) (v := .ref (ad 4 l0 (8 + 1))) (k := 8) hx hb hts inW_4 hown hK hZ g1.1 g1.2 rfl (by decide) k_4_143 rfl (D_180 W_prog_4_method_6_code_0 9 rfl rfl rfl) ?_
    refine lv_iconst (v := iI 1) hx hb (D_4 W_prog_4_method_6_code_0 12 rfl rfl) rfl ?_
    refine zaldQ (t := 0) (ci := 4) (k := 8) hx hb hK rfl hZ g1.1 g1.2 rfl (Nat.le_of_ble_eq_true rfl) (by decide) (by decide) (D_50 W_prog_4_method_6_code_0 13 rfl rfl) ?_
    refine W.eq (g2 := F0 m 14 ls [.ref (ad 4 l0 (361 + 1))]) rfl ?_
    refine lv_iload_n hx hb (D_27 W_prog_4_method_6_code_0 14 rfl rfl) rfl (lv_at hl 1 rfl) ?_
    obtain ⟨g5, hf⟩ := gif hf
    refine zald (ci := 4) (k := 361) hx hb hK rfl hZ g1.1 g1.2 rfl (Nat.le_of_ble_eq_true rfl) g5.1 g5.2 (D_46 W_prog_4_method_6_code_0 15 rfl rfl) ?_
    refine lv_iload_n hx hb (D_28 W_prog_4_method_6_code_0 16 rfl rfl) rfl (lv_at hl 2 rfl) ?_
    obtain ⟨g6, hf⟩ := gif hf
    obtain ⟨g7, hf⟩ := gif hf
    refine zne (tgt := 24) hx hb g6 g7 (D_160 W_prog_4_method_6_code_0 17 rfl rfl rfl) (by decide) (fun h8 => ?_) (fun h8 => ?_)
    · replace hf := gneg hf h8
      exact b_Layout_beginsIn_24 X hf hZ hS (lv_sub hl [] rfl)
    · replace hf := gpos hf h8
      refine lv_iconst (v := iI 1) hx hb (D_4 W_prog_4_method_6_code_0 20 rfl rfl) rfl ?_
      refine lv_goto (tgt := 25) hx hb (D_167 W_prog_4_method_6_code_0 21 rfl rfl rfl) (by decide) ?_
      exact b_Layout_beginsIn_25 X hf hZ hS (lv_sub hl [] rfl)

abbrev Q_Layout_widen (K : zK) (D : va_G) (ca : Nat → ClassId) (ad : Nat → Int → Nat → Nat) (L : List Nat) (r : Int) (F : zF) (B : zB) (A : Nat → Prop) : Array Value → State → Outcome → State → Prop := va_Qv (S := Unit) (fun _ => True) (fun _ => zPo D ca ad lnC K.2 L F B A) A
def f_Layout_widen_98 (rec3 : Int → Int → Int → zF → zB → zO) (K : zK) (l4 : Int) (l0 : Int) (l2 : Int) (F : zF) (B : zB) : zO := rec3 (l4 + 1) l0 l2 F B
set_option maxHeartbeats 4000000 in
set_option maxRecDepth 100000 in
theorem b_Layout_widen_98 {D : va_G} {ca : Nat → ClassId} {ad : Nat → Int → Nat → Nat} {L : List Nat} {aS vS : Nat → Nat} {A : Nat → Prop} {p : Program} {l : Launch} {e : Env} {s : State} {m : MethodId} {args : Array Value} {below : List Frame} {meth : Method} {c : Code} {K : zK} {r : Int} {F9 : zF} {B9 : zB} (X : zX D ca L aS vS A p s m args meth c prog_4_method_7_code 10 (Option.none : Option Jvm.ClassFile.FieldType) "StaveHouse$Layout") {rec3 : Int → Int → Int → zF → zB → zO} (hrec3 : ∀ {l4 : Int} {l0 : Int} {l2 : Int} {F : zF} {B : zB} {H : Heap} {locs : List Loc} {ls : Array Slot}, rec3 l4 l0 l2 F B = some (r, F9, B9) → zH D ca ad lnC K.2 L F B A H → va_S A s.heap H locs → lv_has ls 10 [(4, .int (iI l4)), (0, .ref (ad 2 l0 0)), (2, .long (lI l2))] → W p l e ({ frames := 0, cells := 0, slots := 0, locals := 0 } : Room) s m args below meth c H locs 0 0 (MQ below (Q_Layout_widen K D ca ad L r F9 B9 A) args s 0 0 A) (F0 m 3 ls [])) {l4 : Int} {l0 : Int} {l2 : Int} {F : zF} {B : zB} {H : Heap} {locs : List Loc} {ls : Array Slot} (hf : f_Layout_widen_98 rec3 K l4 l0 l2 F B = some (r, F9, B9)) (hZ : zH D ca ad lnC K.2 L F B A H) (hS : va_S A s.heap H locs) (hl : lv_has ls 10 [(4, .int (iI l4)), (0, .ref (ad 2 l0 0)), (2, .long (lI l2))]) : W p l e ({ frames := 0, cells := 0, slots := 0, locals := 0 } : Room) s m args below meth c H locs 0 0 (MQ below (Q_Layout_widen K D ca ad L r F9 B9 A) args s 0 0 A) (F0 m 98 ls []) := by
  obtain ⟨hx, hb, hr, hml, hown, hts, hlk, hK, hA, hL, hX⟩ := id X
  replace hf : (rec3 (l4 + 1) l0 l2 F B) = some (r, F9, B9) := hf
  refine lv_iinc (v := iI (l4 + 1)) (lv' := [(4, .int (iI (l4 + 1))), (0, .ref (ad 2 l0 0)), (2, .long (lI l2))]) hx hb d_4_7_98 hl (k := 0) rfl (iI_add _ 1) (by decide) rfl (fun ls hl => ?_)
  refine lv_goto (tgt := 3) hx hb (D_167 W_prog_4_method_7_code_96 5 rfl rfl rfl) (by decide) ?_
  exact hrec3 hf hZ hS (lv_sub hl [0, 1, 2] rfl)

def f_Layout_widen_57 (rec3 : Int → Int → Int → zF → zB → zO) (K : zK) : Nat → Int → Int → Int → Int → Int → zF → zB → zO
  | 0, _, _, _, _, _, _, _ => none
  | n + 1, l9, l7, l4, l0, l2, F, B => if r32 l9 then (if 40 ≤ l9 then f_Layout_widen_98 rec3 K l4 l0 l2 F B else if r64 l7 then (if (zcmp l7 2) < 0 then f_Layout_widen_98 rec3 K l4 l0 l2 F B else if 0 ≤ l0 ∧ l0 < K.2 2 then if 0 ≤ l4 ∧ l4 < 3200 then f_Layout_widen_57 rec3 K n (l9 + 1) (zldv l7 2) l4 l0 l2 F (zup4 B 2 l0 2 l4 ((B 2 l0 2 l4) + 4)) else none else none) else none) else none
set_option maxHeartbeats 4000000 in
set_option maxRecDepth 100000 in
theorem b_Layout_widen_57 {D : va_G} {ca : Nat → ClassId} {ad : Nat → Int → Nat → Nat} {L : List Nat} {aS vS : Nat → Nat} {A : Nat → Prop} {p : Program} {l : Launch} {e : Env} {s : State} {m : MethodId} {args : Array Value} {below : List Frame} {meth : Method} {c : Code} {K : zK} {r : Int} {F9 : zF} {B9 : zB} (X : zX D ca L aS vS A p s m args meth c prog_4_method_7_code 10 (Option.none : Option Jvm.ClassFile.FieldType) "StaveHouse$Layout") {rec3 : Int → Int → Int → zF → zB → zO} (hrec3 : ∀ {l4 : Int} {l0 : Int} {l2 : Int} {F : zF} {B : zB} {H : Heap} {locs : List Loc} {ls : Array Slot}, rec3 l4 l0 l2 F B = some (r, F9, B9) → zH D ca ad lnC K.2 L F B A H → va_S A s.heap H locs → lv_has ls 10 [(4, .int (iI l4)), (0, .ref (ad 2 l0 0)), (2, .long (lI l2))] → W p l e ({ frames := 0, cells := 0, slots := 0, locals := 0 } : Room) s m args below meth c H locs 0 0 (MQ below (Q_Layout_widen K D ca ad L r F9 B9 A) args s 0 0 A) (F0 m 3 ls [])) : ∀ {n : Nat} {l9 : Int} {l7 : Int} {l4 : Int} {l0 : Int} {l2 : Int} {F : zF} {B : zB} {H : Heap} {locs : List Loc} {ls : Array Slot}, f_Layout_widen_57 rec3 K n l9 l7 l4 l0 l2 F B = some (r, F9, B9) → zH D ca ad lnC K.2 L F B A H → va_S A s.heap H locs → lv_has ls 10 [(9, .int (iI l9)), (7, .long (lI l7)), (4, .int (iI l4)), (0, .ref (ad 2 l0 0)), (2, .long (lI l2))] → W p l e ({ frames := 0, cells := 0, slots := 0, locals := 0 } : Room) s m args below meth c H locs 0 0 (MQ below (Q_Layout_widen K D ca ad L r F9 B9 A) args s 0 0 A) (F0 m 57 ls []) := by
  obtain ⟨hx, hb, hr, hml, hown, hts, hlk, hK, hA, hL, hX⟩ := id X
  intro n
  induction n with
  | zero =>
    intros
    rename_i hf _ _ _
    cases hf
  | succ n ih =>
    intro l9 l7 l4 l0 l2 F B H locs ls hf hZ hS hl
    replace hf : (if r32 l9 then (if 40 ≤ l9 then f_Layout_widen_98 rec3 K l4 l0 l2 F B else if r64 l7 then (if (zcmp l7 2) < 0 then f_Layout_widen_98 rec3 K l4 l0 l2 F B else if 0 ≤ l0 ∧ l0 < K.2 2 then if 0 ≤ l4 ∧ l4 < 3200 then f_Layout_widen_57 rec3 K n (l9 + 1) (zldv l7 2) l4 l0 l2 F (zup4 B 2 l0 2 l4 ((B 2 l0 2 l4) + 4)) else none else none) else none) else none) = some (r, F9, B9) := hf
    refine lv_iload hx hb (D_21 W_prog_4_method_7_code_32 25 rfl rfl) (lv_at hl 0 rfl) ?_
    refine lv_bipush (v := iI 40) hx hb (D_16 W_prog_4_method_7_code_32 27 rfl rfl rfl) (by decide) ?_
    obtain ⟨g10, hf⟩ := gif hf
    refine zge (tgt := 98) hx hb g10 (by decide) (D_162 W_prog_4_method_7_code_32 29 rfl rfl rfl) (by decide) (fun h11 => ?_) (fun h11 => ?_)
    · replace hf := gpos hf h11
      exact b_Layout_widen_98 X hrec3 hf hZ hS (lv_sub hl [2, 3, 4] rfl)
    · replace hf := gneg hf h11
      refine lv_lload hx hb (D_22 W_prog_4_method_7_code_64 0 rfl rfl) (lv_at hl 1 rfl) ?_
      refine lv_ldc2 hx hb hown (hts _ k_7_45) (D_20 W_prog_4_method_7_code_64 2 rfl rfl rfl) ?_
      refine W.eq (g2 := F0 m 69 ls [.long (lI 2), .long (lI l7)]) rfl ?_
      obtain ⟨g12, hf⟩ := gif hf
      refine zcmp_r hx hb g12 (by decide) (D_148 W_prog_4_method_7_code_64 5 rfl rfl) ?_
      refine z0lt (tgt := 98) hx hb zcmp_32 (D_155 W_prog_4_method_7_code_64 6 rfl rfl rfl) (by decide) (fun h13 => ?_) (fun h13 => ?_)
      · replace hf := gpos hf h13
        exact b_Layout_widen_98 X hrec3 hf hZ hS (lv_sub hl [2, 3, 4] rfl)
      · replace hf := gneg hf h13
        refine lv_aload_n hx hb (D_42 W_prog_4_method_7_code_64 9 rfl rfl) rfl (lv_at hl 3 rfl) ?_
        obtain ⟨g14, hf⟩ := gif hf
        refine zget (ci := 2) (C := RX2) (T := TX2) (v := .ref (ad 2 l0 (2 + 1))) (k := 2) hx hb hts inW_2 hown hK hZ g14.1 g14.2 rfl (by decide) k_6_219 rfl (D_180 W_prog_4_method_7_code_64 10 rfl rfl rfl) ?_
        refine lv_iload hx hb (D_21 W_prog_4_method_7_code_64 13 rfl rfl) (lv_at hl 2 rfl) ?_
        refine lv_dup2_11 hx hb (D_92 W_prog_4_method_7_code_64 15 rfl rfl) rfl rfl ?_
        obtain ⟨g15, hf⟩ := gif hf
        refine zald (ci := 2) (k := 2) hx hb hK rfl hZ g14.1 g14.2 rfl (Nat.le_of_ble_eq_true rfl) g15.1 g15.2 (D_46 W_prog_4_method_7_code_64 16 rfl rfl) ?_
        refine lv_iconst (v := iI 4) hx hb (D_7 W_prog_4_method_7_code_64 17 rfl rfl) rfl ?_
        refine zadd hx hb (D_96 W_prog_4_method_7_code_64 18 rfl rfl) ?_
        refine zast (ci := 2) (k := 2) hx hb hK rfl hZ hS g14.1 g14.2 rfl (Nat.le_of_ble_eq_true rfl) g15.1 g15.2 (D_79 W_prog_4_method_7_code_64 19 rfl rfl) (fun H16 locs16 hZ16 hS16 => ?_)
        refine lv_lload hx hb (D_22 W_prog_4_method_7_code_64 20 rfl rfl) (lv_at hl 1 rfl) ?_
        refine lv_ldc2 hx hb hown (hts _ k_7_45) (D_20 W_prog_4_method_7_code_64 22 rfl rfl rfl) ?_
        refine W.eq (g2 := F0 m 89 ls [.long (lI 2), .long (lI l7)]) rfl ?_
        refine zldv_r hx hb (by decide) (D_109 W_prog_4_method_7_code_64 25 rfl rfl) ?_
        refine lv_lstore (lv' := [(7, .long (lI (zldv l7 2))), (9, .int (iI l9)), (4, .int (iI l4)), (0, .ref (ad 2 l0 0)), (2, .long (lI l2))]) hx hb (D_55 W_prog_4_method_7_code_64 26 rfl rfl) hl (by decide) rfl (fun ls hl => ?_)
        refine lv_iinc (v := iI (l9 + 1)) (lv' := [(9, .int (iI (l9 + 1))), (7, .long (lI (zldv l7 2))), (4, .int (iI l4)), (0, .ref (ad 2 l0 0)), (2, .long (lI l2))]) hx hb d_4_7_92 hl (k := 1) rfl (iI_add _ 1) (by decide) rfl (fun ls hl => ?_)
        refine lv_goto (tgt := 57) hx hb (D_167 W_prog_4_method_7_code_64 31 rfl rfl rfl) (by decide) ?_
        exact ih hf hZ16 hS16 (lv_sub hl [0, 1, 2, 3, 4] rfl)

def f_Layout_widen_36 (rec3 : Int → Int → Int → zF → zB → zO) (K : zK) (l4 : Int) (l0 : Int) (l2 : Int) (s0 : Int) (F : zF) (B : zB) : zO := if 0 ≤ l0 ∧ l0 < K.2 2 then if 0 ≤ l4 ∧ l4 < 3200 then f_Layout_widen_57 rec3 K K.1 0 (zldv (s0 - (B 2 l0 1 l4)) 6350400) l4 l0 l2 F B else none else none
set_option maxHeartbeats 4000000 in
set_option maxRecDepth 100000 in
theorem b_Layout_widen_36 {D : va_G} {ca : Nat → ClassId} {ad : Nat → Int → Nat → Nat} {L : List Nat} {aS vS : Nat → Nat} {A : Nat → Prop} {p : Program} {l : Launch} {e : Env} {s : State} {m : MethodId} {args : Array Value} {below : List Frame} {meth : Method} {c : Code} {K : zK} {r : Int} {F9 : zF} {B9 : zB} (X : zX D ca L aS vS A p s m args meth c prog_4_method_7_code 10 (Option.none : Option Jvm.ClassFile.FieldType) "StaveHouse$Layout") {rec3 : Int → Int → Int → zF → zB → zO} (hrec3 : ∀ {l4 : Int} {l0 : Int} {l2 : Int} {F : zF} {B : zB} {H : Heap} {locs : List Loc} {ls : Array Slot}, rec3 l4 l0 l2 F B = some (r, F9, B9) → zH D ca ad lnC K.2 L F B A H → va_S A s.heap H locs → lv_has ls 10 [(4, .int (iI l4)), (0, .ref (ad 2 l0 0)), (2, .long (lI l2))] → W p l e ({ frames := 0, cells := 0, slots := 0, locals := 0 } : Room) s m args below meth c H locs 0 0 (MQ below (Q_Layout_widen K D ca ad L r F9 B9 A) args s 0 0 A) (F0 m 3 ls [])) {l4 : Int} {l0 : Int} {l2 : Int} {s0 : Int} {F : zF} {B : zB} {H : Heap} {locs : List Loc} {ls : Array Slot} (hf : f_Layout_widen_36 rec3 K l4 l0 l2 s0 F B = some (r, F9, B9)) (hZ : zH D ca ad lnC K.2 L F B A H) (hS : va_S A s.heap H locs) (hl : lv_has ls 10 [(4, .int (iI l4)), (0, .ref (ad 2 l0 0)), (2, .long (lI l2))]) : W p l e ({ frames := 0, cells := 0, slots := 0, locals := 0 } : Room) s m args below meth c H locs 0 0 (MQ below (Q_Layout_widen K D ca ad L r F9 B9 A) args s 0 0 A) (F0 m 36 ls [.long (lI s0)]) := by
  obtain ⟨hx, hb, hr, hml, hown, hts, hlk, hK, hA, hL, hX⟩ := id X
  replace hf : (if 0 ≤ l0 ∧ l0 < K.2 2 then if 0 ≤ l4 ∧ l4 < 3200 then f_Layout_widen_57 rec3 K K.1 0 (zldv (s0 - (B 2 l0 1 l4)) 6350400) l4 l0 l2 F B else none else none) = some (r, F9, B9) := hf
  refine lv_lstore (lv' := [(5, .long (lI s0)), (4, .int (iI l4)), (0, .ref (ad 2 l0 0)), (2, .long (lI l2))]) hx hb (D_55 W_prog_4_method_7_code_32 4 rfl rfl) hl (by decide) rfl (fun ls hl => ?_)
  refine lv_lload hx hb (D_22 W_prog_4_method_7_code_32 6 rfl rfl) (lv_at hl 0 rfl) ?_
  refine lv_aload_n hx hb (D_42 W_prog_4_method_7_code_32 8 rfl rfl) rfl (lv_at hl 2 rfl) ?_
  obtain ⟨g8, hf⟩ := gif hf
  refine zget (ci := 2) (C := RX2) (T := TX2) (v := .ref (ad 2 l0 (1 + 1))) (k := 1) hx hb hts inW_2 hown hK hZ g8.1 g8.2 rfl (by decide) k_6_218 rfl (D_180 W_prog_4_method_7_code_32 9 rfl rfl rfl) ?_
  refine lv_iload hx hb (D_21 W_prog_4_method_7_code_32 12 rfl rfl) (lv_at hl 1 rfl) ?_
  obtain ⟨g9, hf⟩ := gif hf
  refine zlald (ci := 2) (k := 1) hx hb hK rfl hZ g8.1 g8.2 rfl (Nat.le_of_ble_eq_true rfl) g9.1 g9.2 (D_47 W_prog_4_method_7_code_32 14 rfl rfl) ?_
  refine zlsub hx hb (D_101 W_prog_4_method_7_code_32 15 rfl rfl) ?_
  refine lv_ldc2 hx hb hown (hts _ k_7_44) (D_20 W_prog_4_method_7_code_32 16 rfl rfl rfl) ?_
  refine W.eq (g2 := F0 m 51 ls [.long (lI 6350400), .long (lI (s0 - (B 2 l0 1 l4)))]) rfl ?_
  refine zldv_r hx hb (by decide) (D_109 W_prog_4_method_7_code_32 19 rfl rfl) ?_
  refine lv_lstore (lv' := [(7, .long (lI (zldv (s0 - (B 2 l0 1 l4)) 6350400))), (5, .long (lI s0)), (4, .int (iI l4)), (0, .ref (ad 2 l0 0)), (2, .long (lI l2))]) hx hb (D_55 W_prog_4_method_7_code_32 20 rfl rfl) hl (by decide) rfl (fun ls hl => ?_)
  refine lv_iconst (v := iI 0) hx hb (D_3 W_prog_4_method_7_code_32 22 rfl rfl) rfl ?_
  refine lv_istore (lv' := [(9, .int (iI 0)), (7, .long (lI (zldv (s0 - (B 2 l0 1 l4)) 6350400))), (5, .long (lI s0)), (4, .int (iI l4)), (0, .ref (ad 2 l0 0)), (2, .long (lI l2))]) hx hb (D_54 W_prog_4_method_7_code_32 23 rfl rfl) hl (by decide) rfl (fun ls hl => ?_)
  exact b_Layout_widen_57 X hrec3 hf hZ hS (lv_sub hl [0, 1, 3, 4, 5] rfl)

def f_Layout_widen_3 (K : zK) : Nat → Int → Int → Int → zF → zB → zO
  | 0, _, _, _, _, _ => none
  | n + 1, l4, l0, l2, F, B => if 0 ≤ l0 ∧ l0 < K.2 2 then if r32 l4 then if r32 (F 2 l0 4) then (if (F 2 l0 4) ≤ l4 then some (0, F, B) else if r32 (l4 + 1) then (if (F 2 l0 4) ≤ (l4 + 1) then f_Layout_widen_36 (f_Layout_widen_3 K n) K l4 l0 l2 l2 F B else if 0 ≤ (l4 + 1) ∧ (l4 + 1) < 3200 then f_Layout_widen_36 (f_Layout_widen_3 K n) K l4 l0 l2 (B 2 l0 1 (l4 + 1)) F B else none) else none) else none else none else none
set_option maxHeartbeats 4000000 in
set_option maxRecDepth 100000 in
theorem b_Layout_widen_3 {D : va_G} {ca : Nat → ClassId} {ad : Nat → Int → Nat → Nat} {L : List Nat} {aS vS : Nat → Nat} {A : Nat → Prop} {p : Program} {l : Launch} {e : Env} {s : State} {m : MethodId} {args : Array Value} {below : List Frame} {meth : Method} {c : Code} {K : zK} {r : Int} {F9 : zF} {B9 : zB} (X : zX D ca L aS vS A p s m args meth c prog_4_method_7_code 10 (Option.none : Option Jvm.ClassFile.FieldType) "StaveHouse$Layout") : ∀ {n : Nat} {l4 : Int} {l0 : Int} {l2 : Int} {F : zF} {B : zB} {H : Heap} {locs : List Loc} {ls : Array Slot}, f_Layout_widen_3 K n l4 l0 l2 F B = some (r, F9, B9) → zH D ca ad lnC K.2 L F B A H → va_S A s.heap H locs → lv_has ls 10 [(4, .int (iI l4)), (0, .ref (ad 2 l0 0)), (2, .long (lI l2))] → W p l e ({ frames := 0, cells := 0, slots := 0, locals := 0 } : Room) s m args below meth c H locs 0 0 (MQ below (Q_Layout_widen K D ca ad L r F9 B9 A) args s 0 0 A) (F0 m 3 ls []) := by
  obtain ⟨hx, hb, hr, hml, hown, hts, hlk, hK, hA, hL, hX⟩ := id X
  intro n
  induction n with
  | zero =>
    intros
    rename_i hf _ _ _
    cases hf
  | succ n ih =>
    intro l4 l0 l2 F B H locs ls hf hZ hS hl
    replace hf : (if 0 ≤ l0 ∧ l0 < K.2 2 then if r32 l4 then if r32 (F 2 l0 4) then (if (F 2 l0 4) ≤ l4 then some (0, F, B) else if r32 (l4 + 1) then (if (F 2 l0 4) ≤ (l4 + 1) then f_Layout_widen_36 (f_Layout_widen_3 K n) K l4 l0 l2 l2 F B else if 0 ≤ (l4 + 1) ∧ (l4 + 1) < 3200 then f_Layout_widen_36 (f_Layout_widen_3 K n) K l4 l0 l2 (B 2 l0 1 (l4 + 1)) F B else none) else none) else none else none else none) = some (r, F9, B9) := hf
    refine lv_iload hx hb (D_21 W_prog_4_method_7_code_0 3 rfl rfl) (lv_at hl 0 rfl) ?_
    refine lv_aload_n hx hb (D_42 W_prog_4_method_7_code_0 5 rfl rfl) rfl (lv_at hl 1 rfl) ?_
    obtain ⟨g1, hf⟩ := gif hf
    refine zget (ci := 2) (C := RX2) (T := TX2) (v := .int (iI (F 2 l0 4))) (k := 4) hx hb hts inW_2 hown hK hZ g1.1 g1.2 rfl (by decide) k_6_221 rfl (D_180 W_prog_4_method_7_code_0 6 rfl rfl rfl) ?_
    obtain ⟨g2, hf⟩ := gif hf
    obtain ⟨g3, hf⟩ := gif hf
    refine zge (tgt := 104) hx hb g2 g3 (D_162 W_prog_4_method_7_code_0 9 rfl rfl rfl) (by decide) (fun h4 => ?_) (fun h4 => ?_)
    · replace hf := gpos hf h4
      cases hf
      exact W.vret hx hb hr (fun t ht hW => ⟨⟨(), rfl, trivial, by rw [ht]; exact hZ, va_K.moved hW.alike hK⟩, hS.F ht⟩) hS.2.2 (D_177 W_prog_4_method_7_code_96 8 rfl rfl) hlk
    · replace hf := gneg hf h4
      refine lv_iload hx hb (D_21 W_prog_4_method_7_code_0 12 rfl rfl) (lv_at hl 0 rfl) ?_
      refine lv_iconst (v := iI 1) hx hb (D_4 W_prog_4_method_7_code_0 14 rfl rfl) rfl ?_
      refine zadd hx hb (D_96 W_prog_4_method_7_code_0 15 rfl rfl) ?_
      refine lv_aload_n hx hb (D_42 W_prog_4_method_7_code_0 16 rfl rfl) rfl (lv_at hl 1 rfl) ?_
      refine zget (ci := 2) (C := RX2) (T := TX2) (v := .int (iI (F 2 l0 4))) (k := 4) hx hb hts inW_2 hown hK hZ g1.1 g1.2 rfl (by decide) k_6_221 rfl (D_180 W_prog_4_method_7_code_0 17 rfl rfl rfl) ?_
      obtain ⟨g5, hf⟩ := gif hf
      refine zge (tgt := 35) hx hb g5 g3 (D_162 W_prog_4_method_7_code_0 20 rfl rfl rfl) (by decide) (fun h6 => ?_) (fun h6 => ?_)
      · replace hf := gpos hf h6
        refine lv_lload_n hx hb (D_32 W_prog_4_method_7_code_32 3 rfl rfl) rfl (lv_at hl 2 rfl) ?_
        exact b_Layout_widen_36 X ih hf hZ hS (lv_sub hl [0, 1, 2] rfl)
      · replace hf := gneg hf h6
        refine lv_aload_n hx hb (D_42 W_prog_4_method_7_code_0 23 rfl rfl) rfl (lv_at hl 1 rfl) ?_
        refine zget (ci := 2) (C := RX2) (T := TX2) (v := .ref (ad 2 l0 (1 + 1))) (k := 1) hx hb hts inW_2 hown hK hZ g1.1 g1.2 rfl (by decide) k_6_218 rfl (D_180 W_prog_4_method_7_code_0 24 rfl rfl rfl) ?_
        refine lv_iload hx hb (D_21 W_prog_4_method_7_code_0 27 rfl rfl) (lv_at hl 0 rfl) ?_
        refine lv_iconst (v := iI 1) hx hb (D_4 W_prog_4_method_7_code_0 29 rfl rfl) rfl ?_
        refine zadd hx hb (D_96 W_prog_4_method_7_code_0 30 rfl rfl) ?_
        obtain ⟨g7, hf⟩ := gif hf
        refine zlald (ci := 2) (k := 1) hx hb hK rfl hZ g1.1 g1.2 rfl (Nat.le_of_ble_eq_true rfl) g7.1 g7.2 (D_47 W_prog_4_method_7_code_0 31 rfl rfl) ?_
        refine lv_goto (tgt := 36) hx hb (D_167 W_prog_4_method_7_code_32 0 rfl rfl rfl) (by decide) ?_
        exact b_Layout_widen_36 X ih hf hZ hS (lv_sub hl [0, 1, 2] rfl)

def f_Layout_widen (K : zK) (l0 : Int) (l1 : Int) (l2 : Int) (F : zF) (B : zB) : zO := f_Layout_widen_3 K K.1 l1 l0 l2 F B
set_option maxHeartbeats 4000000 in
set_option maxRecDepth 100000 in
theorem c_Layout_widen {l : Launch} {D : va_G} {ca : Nat → ClassId} {ad : Nat → Int → Nat → Nat} {L : List Nat} {aS vS : Nat → Nat} {sz : Nat} {K : zK}  {l0 : Int} {l1 : Int} {l2 : Int} {F F9 : zF} {B B9 : zB} {r : Int} (hf : f_Layout_widen K l0 l1 l2 F B = some (r, F9, B9)) : Met l ({ cls := "StaveHouse$Layout", name := "widen", desc := "(IJ)V" } : Jvm.MethodName) (Cond.code ({ cls := "StaveHouse$Layout", name := "widen", desc := "(IJ)V" } : Jvm.MethodName) prog_4_method_7_code 10 (Option.none : Option Jvm.ClassFile.FieldType) :: wAll) ({ frames := 0, cells := 0, slots := 0, locals := 0 } : Room) (va_Pc [.ref (ad 2 l0 0), .int (iI l1), .long (lI l2)] (zPre D ca ad lnC K.2 L aS vS F B sz)) (Q_Layout_widen K D ca ad L r F9 B9 (zA L sz)) 0 0 (zA L sz) := by
  refine zMet (Qc := Q_Layout_widen K D ca ad L r F9 B9) (lv := [(0, .ref (ad 2 l0 0)), (1, .int (iI l1)), (2, .long (lI l2))]) (by decide) (Nat.le_of_ble_eq_true rfl) rfl (fun A p e s m below meth c ls X hZ hS hl => ?_)
  obtain ⟨hx, hb, hr, hml, hown, hts, hlk, hK, hA, hL, hX⟩ := id X
  replace hf : (f_Layout_widen_3 K K.1 l1 l0 l2 F B) = some (r, F9, B9) := hf
  refine lv_iload_n hx hb (D_27 W_prog_4_method_7_code_0 0 rfl rfl) rfl (lv_at hl 1 rfl) ?_
  refine lv_istore (lv' := [(4, .int (iI l1)), (0, .ref (ad 2 l0 0)), (1, .int (iI l1)), (2, .long (lI l2))]) hx hb (D_54 W_prog_4_method_7_code_0 1 rfl rfl) hl (by decide) rfl (fun ls hl => ?_)
  exact b_Layout_widen_3 X hf hZ hS (lv_sub hl [0, 1, 3] rfl)

abbrev Q_Layout_lead (K : zK) (D : va_G) (ca : Nat → ClassId) (ad : Nat → Int → Nat → Nat) (L : List Nat) (r : Int) (F : zF) (B : zB) (A : Nat → Prop) : Array Value → State → Outcome → State → Prop := va_Qi (S := Unit) (fun p _ => p = iI r) (fun _ => zPo D ca ad lnC K.2 L F B A) A
def f_Layout_lead_22 (K : zK) (s0 : Int) (s1 : Int) (F : zF) (B : zB) : zO := some (s0 + s1, F, B)
set_option maxHeartbeats 4000000 in
set_option maxRecDepth 100000 in
theorem b_Layout_lead_22 {D : va_G} {ca : Nat → ClassId} {ad : Nat → Int → Nat → Nat} {L : List Nat} {aS vS : Nat → Nat} {A : Nat → Prop} {p : Program} {l : Launch} {e : Env} {s : State} {m : MethodId} {args : Array Value} {below : List Frame} {meth : Method} {c : Code} {K : zK} {r : Int} {F9 : zF} {B9 : zB} (X : zX D ca L aS vS A p s m args meth c prog_4_method_8_code 2 (Option.some Jvm.ClassFile.FieldType.int) "StaveHouse$Layout") {s0 : Int} {s1 : Int} {F : zF} {B : zB} {H : Heap} {locs : List Loc} {ls : Array Slot} (hf : f_Layout_lead_22 K s0 s1 F B = some (r, F9, B9)) (hZ : zH D ca ad lnC K.2 L F B A H) (hS : va_S A s.heap H locs) (hl : lv_has ls 2 []) : W p l e ({ frames := 1, cells := 0, slots := 0, locals := 15 } : Room) s m args below meth c H locs 0 0 (MQ below (Q_Layout_lead K D ca ad L r F9 B9 A) args s 0 0 A) (F0 m 22 ls [.int (iI s1), .int (iI s0)]) := by
  obtain ⟨hx, hb, hr, hml, hown, hts, hlk, hK, hA, hL, hX⟩ := id X
  replace hf : (some (s0 + s1, F, B)) = some (r, F9, B9) := hf
  refine zadd hx hb (D_96 W_prog_4_method_8_code_0 22 rfl rfl) ?_
  cases hf
  exact W.iret hx hb hr (fun t ht hW => ⟨⟨_, (), rfl, rfl, by rw [ht]; exact hZ, va_K.moved hW.alike hK⟩, hS.F ht⟩) hS.2.2 (D_172 W_prog_4_method_8_code_0 23 rfl rfl) hlk

def f_Layout_lead (K : zK) (l0 : Int) (l1 : Int) (F : zF) (B : zB) : zO := if 0 ≤ l0 ∧ l0 < K.2 6 then if r32 (F 6 l0 2) then if r32 l1 then (if l1 = 0 then f_Layout_lead_22 K (24 + (5 * (zabs (F 6 l0 2)))) 12 F B else f_Layout_lead_22 K (24 + (5 * (zabs (F 6 l0 2)))) 0 F B) else none else none else none
set_option maxHeartbeats 4000000 in
set_option maxRecDepth 100000 in
theorem c_Layout_lead {l : Launch} {D : va_G} {ca : Nat → ClassId} {ad : Nat → Int → Nat → Nat} {L : List Nat} {aS vS : Nat → Nat} {sz : Nat} {K : zK}  {l0 : Int} {l1 : Int} {F F9 : zF} {B B9 : zB} {r : Int} (hf : f_Layout_lead K l0 l1 F B = some (r, F9, B9)) : Met l ({ cls := "StaveHouse$Layout", name := "lead", desc := "(LStaveHouse$Piece;I)I" } : Jvm.MethodName) (Cond.code ({ cls := "StaveHouse$Layout", name := "lead", desc := "(LStaveHouse$Piece;I)I" } : Jvm.MethodName) prog_4_method_8_code 2 (Option.some Jvm.ClassFile.FieldType.int) :: wAll) ({ frames := 1, cells := 0, slots := 0, locals := 15 } : Room) (va_Pc [.ref (ad 6 l0 0), .int (iI l1)] (zPre D ca ad lnC K.2 L aS vS F B sz)) (Q_Layout_lead K D ca ad L r F9 B9 (zA L sz)) 0 0 (zA L sz) := by
  refine zMet (Qc := Q_Layout_lead K D ca ad L r F9 B9) (lv := [(0, .ref (ad 6 l0 0)), (1, .int (iI l1))]) (by decide) (Nat.le_of_ble_eq_true rfl) rfl (fun A p e s m below meth c ls X hZ hS hl => ?_)
  obtain ⟨hx, hb, hr, hml, hown, hts, hlk, hK, hA, hL, hX⟩ := id X
  replace hf : (if 0 ≤ l0 ∧ l0 < K.2 6 then if r32 (F 6 l0 2) then if r32 l1 then (if l1 = 0 then f_Layout_lead_22 K (24 + (5 * (zabs (F 6 l0 2)))) 12 F B else f_Layout_lead_22 K (24 + (5 * (zabs (F 6 l0 2)))) 0 F B) else none else none else none) = some (r, F9, B9) := hf
  refine lv_bipush (v := iI 24) hx hb (D_16 W_prog_4_method_8_code_0 0 rfl rfl rfl) (by decide) ?_
  refine lv_iconst (v := iI 5) hx hb (D_8 W_prog_4_method_8_code_0 2 rfl rfl) rfl ?_
  refine lv_aload_n hx hb (D_42 W_prog_4_method_8_code_0 3 rfl rfl) rfl (lv_at hl 0 rfl) ?_
  obtain ⟨g1, hf⟩ := gif hf
  refine zget (ci := 6) (C := RX6) (T := TX6) (v := .int (iI (F 6 l0 2))) (k := 2) hx hb hts inW_6 hown hK hZ g1.1 g1.2 rfl (by decide) k_2_196 rfl (D_180 W_prog_4_method_8_code_0 4 rfl rfl rfl) ?_
  obtain ⟨g2, hf⟩ := gif hf
  refine va_mabs hx hb (by rw [hml]; exact hl.1.symm) hown (hts _ k_7_53) (hts _ k_4_229) (hts _ k_1_3) (hts _ k_4_230) (Nat.le_of_ble_eq_true rfl) (Nat.le_of_ble_eq_true rfl) (Nat.le_of_ble_eq_true rfl) (Nat.le_of_ble_eq_true rfl) (D_184 W_prog_4_method_8_code_0 7 rfl rfl rfl) ?_
  rw [zabs_e g2]
  refine zmul hx hb (D_104 W_prog_4_method_8_code_0 10 rfl rfl) ?_
  refine zadd hx hb (D_96 W_prog_4_method_8_code_0 11 rfl rfl) ?_
  refine lv_iload_n hx hb (D_27 W_prog_4_method_8_code_0 12 rfl rfl) rfl (lv_at hl 1 rfl) ?_
  obtain ⟨g3, hf⟩ := gif hf
  refine z0ne (tgt := 21) hx hb g3 (D_154 W_prog_4_method_8_code_0 13 rfl rfl rfl) (by decide) (fun h4 => ?_) (fun h4 => ?_)
  · replace hf := gneg hf h4
    refine lv_iconst (v := iI 0) hx hb (D_3 W_prog_4_method_8_code_0 21 rfl rfl) rfl ?_
    exact b_Layout_lead_22 X hf hZ hS (lv_sub hl [] rfl)
  · replace hf := gpos hf h4
    refine lv_bipush (v := iI 12) hx hb (D_16 W_prog_4_method_8_code_0 16 rfl rfl rfl) (by decide) ?_
    refine lv_goto (tgt := 22) hx hb (D_167 W_prog_4_method_8_code_0 18 rfl rfl rfl) (by decide) ?_
    exact b_Layout_lead_22 X hf hZ hS (lv_sub hl [] rfl)

abbrev Q_Layout_price (K : zK) (D : va_G) (ca : Nat → ClassId) (ad : Nat → Int → Nat → Nat) (L : List Nat) (r : Int) (F : zF) (B : zB) (A : Nat → Prop) : Array Value → State → Outcome → State → Prop := va_Ql (S := Unit) (fun p _ => p = lI r) (fun _ => zPo D ca ad lnC K.2 L F B A) A
def f_Layout_price_34 (K : zK) (s0 : Int) (F : zF) (B : zB) : zO := some (s0, F, B)
set_option maxHeartbeats 4000000 in
set_option maxRecDepth 100000 in
theorem b_Layout_price_34 {D : va_G} {ca : Nat → ClassId} {ad : Nat → Int → Nat → Nat} {L : List Nat} {aS vS : Nat → Nat} {A : Nat → Prop} {p : Program} {l : Launch} {e : Env} {s : State} {m : MethodId} {args : Array Value} {below : List Frame} {meth : Method} {c : Code} {K : zK} {r : Int} {F9 : zF} {B9 : zB} (X : zX D ca L aS vS A p s m args meth c prog_4_method_11_code 5 (Option.some Jvm.ClassFile.FieldType.long) "StaveHouse$Layout") {s0 : Int} {F : zF} {B : zB} {H : Heap} {locs : List Loc} {ls : Array Slot} (hf : f_Layout_price_34 K s0 F B = some (r, F9, B9)) (hZ : zH D ca ad lnC K.2 L F B A H) (hS : va_S A s.heap H locs) (hl : lv_has ls 5 []) : W p l e ({ frames := 0, cells := 0, slots := 0, locals := 0 } : Room) s m args below meth c H locs 0 0 (MQ below (Q_Layout_price K D ca ad L r F9 B9 A) args s 0 0 A) (F0 m 34 ls [.long (lI s0)]) := by
  obtain ⟨hx, hb, hr, hml, hown, hts, hlk, hK, hA, hL, hX⟩ := id X
  replace hf : (some (s0, F, B)) = some (r, F9, B9) := hf
  cases hf
  exact W.lret hx hb hr (fun t ht hW => ⟨⟨_, (), rfl, rfl, by rw [ht]; exact hZ, va_K.moved hW.alike hK⟩, hS.F ht⟩) hS.2.2 (D_173 W_prog_4_method_11_code_32 2 rfl rfl) hlk

def f_Layout_price (K : zK) (l0 : Int) (l2 : Int) (l4 : Int) (F : zF) (B : zB) : zO := if r64 l2 then if r64 l0 then (if (zcmp l2 l0) ≤ 0 then if r32 l4 then (if l4 = 0 then f_Layout_price_34 K ((l0 - l2) * (l0 - l2)) F B else f_Layout_price_34 K 0 F B) else none else some ((4 * (l2 - l0)) * (l2 - l0), F, B)) else none else none
set_option maxHeartbeats 4000000 in
set_option maxRecDepth 100000 in
theorem c_Layout_price {l : Launch} {D : va_G} {ca : Nat → ClassId} {ad : Nat → Int → Nat → Nat} {L : List Nat} {aS vS : Nat → Nat} {sz : Nat} {K : zK}  {l0 : Int} {l2 : Int} {l4 : Int} {F F9 : zF} {B B9 : zB} {r : Int} (hf : f_Layout_price K l0 l2 l4 F B = some (r, F9, B9)) : Met l ({ cls := "StaveHouse$Layout", name := "price", desc := "(JJZ)J" } : Jvm.MethodName) (Cond.code ({ cls := "StaveHouse$Layout", name := "price", desc := "(JJZ)J" } : Jvm.MethodName) prog_4_method_11_code 5 (Option.some Jvm.ClassFile.FieldType.long) :: wAll) ({ frames := 0, cells := 0, slots := 0, locals := 0 } : Room) (va_Pc [.long (lI l0), .long (lI l2), .int (iI l4)] (zPre D ca ad lnC K.2 L aS vS F B sz)) (Q_Layout_price K D ca ad L r F9 B9 (zA L sz)) 0 0 (zA L sz) := by
  refine zMet (Qc := Q_Layout_price K D ca ad L r F9 B9) (lv := [(0, .long (lI l0)), (2, .long (lI l2)), (4, .int (iI l4))]) (by decide) (Nat.le_of_ble_eq_true rfl) rfl (fun A p e s m below meth c ls X hZ hS hl => ?_)
  obtain ⟨hx, hb, hr, hml, hown, hts, hlk, hK, hA, hL, hX⟩ := id X
  replace hf : (if r64 l2 then if r64 l0 then (if (zcmp l2 l0) ≤ 0 then if r32 l4 then (if l4 = 0 then f_Layout_price_34 K ((l0 - l2) * (l0 - l2)) F B else f_Layout_price_34 K 0 F B) else none else some ((4 * (l2 - l0)) * (l2 - l0), F, B)) else none else none) = some (r, F9, B9) := hf
  refine lv_lload_n hx hb (D_32 W_prog_4_method_11_code_0 0 rfl rfl) rfl (lv_at hl 1 rfl) ?_
  refine lv_lload_n hx hb (D_30 W_prog_4_method_11_code_0 1 rfl rfl) rfl (lv_at hl 0 rfl) ?_
  obtain ⟨g1, hf⟩ := gif hf
  obtain ⟨g2, hf⟩ := gif hf
  refine zcmp_r hx hb g1 g2 (D_148 W_prog_4_method_11_code_0 2 rfl rfl) ?_
  refine z0le (tgt := 18) hx hb zcmp_32 (D_158 W_prog_4_method_11_code_0 3 rfl rfl rfl) (by decide) (fun h3 => ?_) (fun h3 => ?_)
  · replace hf := gpos hf h3
    refine lv_iload hx hb (D_21 W_prog_4_method_11_code_0 18 rfl rfl) (lv_at hl 2 rfl) ?_
    obtain ⟨g4, hf⟩ := gif hf
    refine z0eq (tgt := 27) hx hb g4 (D_153 W_prog_4_method_11_code_0 20 rfl rfl rfl) (by decide) (fun h5 => ?_) (fun h5 => ?_)
    · replace hf := gpos hf h5
      refine lv_lload_n hx hb (D_30 W_prog_4_method_11_code_0 27 rfl rfl) rfl (lv_at hl 0 rfl) ?_
      refine lv_lload_n hx hb (D_32 W_prog_4_method_11_code_0 28 rfl rfl) rfl (lv_at hl 1 rfl) ?_
      refine zlsub hx hb (D_101 W_prog_4_method_11_code_0 29 rfl rfl) ?_
      refine lv_lload_n hx hb (D_30 W_prog_4_method_11_code_0 30 rfl rfl) rfl (lv_at hl 0 rfl) ?_
      refine lv_lload_n hx hb (D_32 W_prog_4_method_11_code_0 31 rfl rfl) rfl (lv_at hl 1 rfl) ?_
      refine zlsub hx hb (D_101 W_prog_4_method_11_code_32 0 rfl rfl) ?_
      refine zlmul hx hb (D_105 W_prog_4_method_11_code_32 1 rfl rfl) ?_
      exact b_Layout_price_34 X hf hZ hS (lv_sub hl [] rfl)
    · replace hf := gneg hf h5
      refine lv_lconst (v := lI 0) hx hb (D_9 W_prog_4_method_11_code_0 23 rfl rfl) (by decide) ?_
      refine lv_goto (tgt := 34) hx hb (D_167 W_prog_4_method_11_code_0 24 rfl rfl rfl) (by decide) ?_
      exact b_Layout_price_34 X hf hZ hS (lv_sub hl [] rfl)
  · replace hf := gneg hf h3
    refine lv_ldc2 hx hb hown (hts _ k_7_58) (D_20 W_prog_4_method_11_code_0 6 rfl rfl rfl) ?_
    refine W.eq (g2 := F0 m 9 ls [.long (lI 4)]) rfl ?_
    refine lv_lload_n hx hb (D_32 W_prog_4_method_11_code_0 9 rfl rfl) rfl (lv_at hl 1 rfl) ?_
    refine lv_lload_n hx hb (D_30 W_prog_4_method_11_code_0 10 rfl rfl) rfl (lv_at hl 0 rfl) ?_
    refine zlsub hx hb (D_101 W_prog_4_method_11_code_0 11 rfl rfl) ?_
    refine zlmul hx hb (D_105 W_prog_4_method_11_code_0 12 rfl rfl) ?_
    refine lv_lload_n hx hb (D_32 W_prog_4_method_11_code_0 13 rfl rfl) rfl (lv_at hl 1 rfl) ?_
    refine lv_lload_n hx hb (D_30 W_prog_4_method_11_code_0 14 rfl rfl) rfl (lv_at hl 0 rfl) ?_
    refine zlsub hx hb (D_101 W_prog_4_method_11_code_0 15 rfl rfl) ?_
    refine zlmul hx hb (D_105 W_prog_4_method_11_code_0 16 rfl rfl) ?_
    cases hf
    exact W.lret hx hb hr (fun t ht hW => ⟨⟨_, (), rfl, rfl, by rw [ht]; exact hZ, va_K.moved hW.alike hK⟩, hS.F ht⟩) hS.2.2 (D_173 W_prog_4_method_11_code_0 17 rfl rfl) hlk

abbrev Q_Layout_widthOf (K : zK) (D : va_G) (ca : Nat → ClassId) (ad : Nat → Int → Nat → Nat) (L : List Nat) (r : Int) (F : zF) (B : zB) (A : Nat → Prop) : Array Value → State → Outcome → State → Prop := va_Qi (S := Unit) (fun p _ => p = iI r) (fun _ => zPo D ca ad lnC K.2 L F B A) A
def f_Layout_widthOf_10 (K : zK) : Nat → Int → Int → Int → Int → zF → zB → zO
  | 0, _, _, _, _, _, _ => none
  | n + 1, l5, l4, l0, l3, F, B => if r32 l5 then if r32 l3 then (if l3 ≤ l5 then some (l4, F, B) else if 0 ≤ l0 ∧ l0 < K.2 2 then if 0 ≤ l5 ∧ l5 < 100 then f_Layout_widthOf_10 K n (l5 + 1) (l4 + (B 2 l0 6 l5)) l0 l3 F B else none else none) else none else none
set_option maxHeartbeats 4000000 in
set_option maxRecDepth 100000 in
theorem b_Layout_widthOf_10 {D : va_G} {ca : Nat → ClassId} {ad : Nat → Int → Nat → Nat} {L : List Nat} {aS vS : Nat → Nat} {A : Nat → Prop} {p : Program} {l : Launch} {e : Env} {s : State} {m : MethodId} {args : Array Value} {below : List Frame} {meth : Method} {c : Code} {K : zK} {r : Int} {F9 : zF} {B9 : zB} (X : zX D ca L aS vS A p s m args meth c prog_4_method_9_code 6 (Option.some Jvm.ClassFile.FieldType.int) "StaveHouse$Layout") : ∀ {n : Nat} {l5 : Int} {l4 : Int} {l0 : Int} {l3 : Int} {F : zF} {B : zB} {H : Heap} {locs : List Loc} {ls : Array Slot}, f_Layout_widthOf_10 K n l5 l4 l0 l3 F B = some (r, F9, B9) → zH D ca ad lnC K.2 L F B A H → va_S A s.heap H locs → lv_has ls 6 [(5, .int (iI l5)), (4, .int (iI l4)), (0, .ref (ad 2 l0 0)), (3, .int (iI l3))] → W p l e ({ frames := 2, cells := 0, slots := 0, locals := 36 } : Room) s m args below meth c H locs 0 0 (MQ below (Q_Layout_widthOf K D ca ad L r F9 B9 A) args s 0 0 A) (F0 m 10 ls []) := by
  obtain ⟨hx, hb, hr, hml, hown, hts, hlk, hK, hA, hL, hX⟩ := id X
  intro n
  induction n with
  | zero =>
    intros
    rename_i hf _ _ _
    cases hf
  | succ n ih =>
    intro l5 l4 l0 l3 F B H locs ls hf hZ hS hl
    replace hf : (if r32 l5 then if r32 l3 then (if l3 ≤ l5 then some (l4, F, B) else if 0 ≤ l0 ∧ l0 < K.2 2 then if 0 ≤ l5 ∧ l5 < 100 then f_Layout_widthOf_10 K n (l5 + 1) (l4 + (B 2 l0 6 l5)) l0 l3 F B else none else none) else none else none) = some (r, F9, B9) := hf
    refine lv_iload hx hb (D_21 W_prog_4_method_9_code_0 10 rfl rfl) (lv_at hl 0 rfl) ?_
    refine lv_iload_n hx hb (D_29 W_prog_4_method_9_code_0 12 rfl rfl) rfl (lv_at hl 3 rfl) ?_
    obtain ⟨g2, hf⟩ := gif hf
    obtain ⟨g3, hf⟩ := gif hf
    refine zge (tgt := 34) hx hb g2 g3 (D_162 W_prog_4_method_9_code_0 13 rfl rfl rfl) (by decide) (fun h4 => ?_) (fun h4 => ?_)
    · replace hf := gpos hf h4
      refine lv_iload hx hb (D_21 W_prog_4_method_9_code_32 2 rfl rfl) (lv_at hl 1 rfl) ?_
      cases hf
      exact W.iret hx hb hr (fun t ht hW => ⟨⟨_, (), rfl, rfl, by rw [ht]; exact hZ, va_K.moved hW.alike hK⟩, hS.F ht⟩) hS.2.2 (D_172 W_prog_4_method_9_code_32 4 rfl rfl) hlk
    · replace hf := gneg hf h4
      refine lv_iload hx hb (D_21 W_prog_4_method_9_code_0 16 rfl rfl) (lv_at hl 1 rfl) ?_
      refine lv_aload_n hx hb (D_42 W_prog_4_method_9_code_0 18 rfl rfl) rfl (lv_at hl 2 rfl) ?_
      obtain ⟨g5, hf⟩ := gif hf
      refine zget (ci := 2) (C := RX2) (T := TX2) (v := .ref (ad 2 l0 (6 + 1))) (k := 6) hx hb hts inW_2 hown hK hZ g5.1 g5.2 rfl (by decide) k_6_223 rfl (D_180 W_prog_4_method_9_code_0 19 rfl rfl rfl) ?_
      refine lv_iload hx hb (D_21 W_prog_4_method_9_code_0 22 rfl rfl) (lv_at hl 0 rfl) ?_
      obtain ⟨g6, hf⟩ := gif hf
      refine zald (ci := 2) (k := 6) hx hb hK rfl hZ g5.1 g5.2 rfl (Nat.le_of_ble_eq_true rfl) g6.1 g6.2 (D_46 W_prog_4_method_9_code_0 24 rfl rfl) ?_
      refine zadd hx hb (D_96 W_prog_4_method_9_code_0 25 rfl rfl) ?_
      refine lv_istore (lv' := [(4, .int (iI (l4 + (B 2 l0 6 l5)))), (5, .int (iI l5)), (0, .ref (ad 2 l0 0)), (3, .int (iI l3))]) hx hb (D_54 W_prog_4_method_9_code_0 26 rfl rfl) hl (by decide) rfl (fun ls hl => ?_)
      refine lv_iinc (v := iI (l5 + 1)) (lv' := [(5, .int (iI (l5 + 1))), (4, .int (iI (l4 + (B 2 l0 6 l5)))), (0, .ref (ad 2 l0 0)), (3, .int (iI l3))]) hx hb d_4_9_28 hl (k := 1) rfl (iI_add _ 1) (by decide) rfl (fun ls hl => ?_)
      refine lv_goto (tgt := 10) hx hb (D_167 W_prog_4_method_9_code_0 31 rfl rfl rfl) (by decide) ?_
      exact ih hf hZ hS (lv_sub hl [0, 1, 2, 3] rfl)

def f_Layout_widthOf (K : zK) (l0 : Int) (l1 : Int) (l2 : Int) (l3 : Int) (F : zF) (B : zB) : zO := zbind (f_Layout_lead K l1 l2 F B) (fun r1 F1 B1 => f_Layout_widthOf_10 K K.1 l2 r1 l0 l3 F1 B1)
set_option maxHeartbeats 4000000 in
set_option maxRecDepth 100000 in
theorem c_Layout_widthOf {l : Launch} {D : va_G} {ca : Nat → ClassId} {ad : Nat → Int → Nat → Nat} {L : List Nat} {aS vS : Nat → Nat} {sz : Nat} {K : zK}  {l0 : Int} {l1 : Int} {l2 : Int} {l3 : Int} {F F9 : zF} {B B9 : zB} {r : Int} (hf : f_Layout_widthOf K l0 l1 l2 l3 F B = some (r, F9, B9)) : Met l ({ cls := "StaveHouse$Layout", name := "widthOf", desc := "(LStaveHouse$Piece;II)I" } : Jvm.MethodName) (Cond.code ({ cls := "StaveHouse$Layout", name := "widthOf", desc := "(LStaveHouse$Piece;II)I" } : Jvm.MethodName) prog_4_method_9_code 6 (Option.some Jvm.ClassFile.FieldType.int) :: wAll) ({ frames := 2, cells := 0, slots := 0, locals := 36 } : Room) (va_Pc [.ref (ad 2 l0 0), .ref (ad 6 l1 0), .int (iI l2), .int (iI l3)] (zPre D ca ad lnC K.2 L aS vS F B sz)) (Q_Layout_widthOf K D ca ad L r F9 B9 (zA L sz)) 0 0 (zA L sz) := by
  refine zMet (Qc := Q_Layout_widthOf K D ca ad L r F9 B9) (lv := [(0, .ref (ad 2 l0 0)), (1, .ref (ad 6 l1 0)), (2, .int (iI l2)), (3, .int (iI l3))]) (by decide) (Nat.le_of_ble_eq_true rfl) rfl (fun A p e s m below meth c ls X hZ hS hl => ?_)
  obtain ⟨hx, hb, hr, hml, hown, hts, hlk, hK, hA, hL, hX⟩ := id X
  replace hf : (zbind (f_Layout_lead K l1 l2 F B) (fun r1 F1 B1 => f_Layout_widthOf_10 K K.1 l2 r1 l0 l3 F1 B1)) = some (r, F9, B9) := hf
  refine lv_aload_n hx hb (D_43 W_prog_4_method_9_code_0 0 rfl rfl) rfl (lv_at hl 1 rfl) ?_
  refine lv_iload_n hx hb (D_28 W_prog_4_method_9_code_0 1 rfl rfl) rfl (lv_at hl 2 rfl) ?_
  obtain ⟨r1, F1, B1, hc1, hf⟩ := gbind hf
  refine va_calli (va_runS (As := [.ref (ad 6 l1 0), .int (iI l2)]) (rest := []) ⟨hx, hb, hml, hown, hts⟩ (c_Layout_lead (l := l) hc1) (va_cwS 2 hts (gdS k_7_50 k_7_51 k_1_21 k_7_52) rfl rfl rfl (by decide +kernel) ⟨Nat.le_of_ble_eq_true rfl, Nat.le_of_ble_eq_true rfl⟩) (zPS X hZ hS [.ref (ad 6 l1 0), .int (iI l2)]) rfl rfl hl.1 rfl (lv_room (Nat.le_of_ble_eq_true rfl)) (D_184 W_prog_4_method_9_code_0 2 rfl rfl rfl) ⟨Nat.le_of_ble_eq_true rfl, Nat.le_of_ble_eq_true rfl⟩) hS (fun q _ h => zAin X hS q h) (zAin X hS) (fun p1 u1 t1 H1 locs1 ht1 hv1 hw1 hB1 hz1 hk1 hS1 => ?_)
  have hZ1 := zBack X ht1 hB1
  subst hw1
  refine lv_istore (lv' := [(4, .int (iI r1)), (0, .ref (ad 2 l0 0)), (1, .ref (ad 6 l1 0)), (2, .int (iI l2)), (3, .int (iI l3))]) hx hb (D_54 W_prog_4_method_9_code_0 5 rfl rfl) hl (by decide) rfl (fun ls hl => ?_)
  refine lv_iload_n hx hb (D_28 W_prog_4_method_9_code_0 7 rfl rfl) rfl (lv_at hl 3 rfl) ?_
  refine lv_istore (lv' := [(5, .int (iI l2)), (4, .int (iI r1)), (0, .ref (ad 2 l0 0)), (1, .ref (ad 6 l1 0)), (2, .int (iI l2)), (3, .int (iI l3))]) hx hb (D_54 W_prog_4_method_9_code_0 8 rfl rfl) hl (by decide) rfl (fun ls hl => ?_)
  exact b_Layout_widthOf_10 X hf hZ1 hS1 (lv_sub hl [0, 1, 2, 5] rfl)

abbrev Q_Layout_setXs (K : zK) (D : va_G) (ca : Nat → ClassId) (ad : Nat → Int → Nat → Nat) (L : List Nat) (r : Int) (F : zF) (B : zB) (A : Nat → Prop) : Array Value → State → Outcome → State → Prop := va_Qv (S := Unit) (fun _ => True) (fun _ => zPo D ca ad lnC K.2 L F B A) A
def f_Layout_setXs_108 (rec83 : Int → Int → Int → Int → Int → Int → Int → zF → zB → zO) (K : zK) : Nat → Int → Int → Int → Int → Int → Int → Int → Int → zF → zB → zO
  | 0, _, _, _, _, _, _, _, _, _, _ => none
  | n + 1, l9, l4, l8, l7, l6, l5, l0, l2, F, B => if 0 ≤ l0 ∧ l0 < K.2 2 then if 0 ≤ (l8 + 1) ∧ (l8 + 1) < 101 then if r32 l9 then if r32 (B 2 l0 5 (l8 + 1)) then (if (B 2 l0 5 (l8 + 1)) ≤ l9 then rec83 (l8 + 1) l7 l6 l5 l4 l0 l2 F B else if ¬ iI l6 = 0 then if 0 ≤ l9 ∧ l9 < 3200 then f_Layout_setXs_108 rec83 K n (l9 + 1) (l4 + ((zup4 B 2 l0 3 l9 (l4 + (zdv (l7 * (l9 - l5)) l6))) 2 l0 2 l9)) l8 l7 l6 l5 l0 l2 F (zup4 B 2 l0 3 l9 (l4 + (zdv (l7 * (l9 - l5)) l6))) else none else none) else none else none else none else none
set_option maxHeartbeats 4000000 in
set_option maxRecDepth 100000 in
theorem b_Layout_setXs_108 {D : va_G} {ca : Nat → ClassId} {ad : Nat → Int → Nat → Nat} {L : List Nat} {aS vS : Nat → Nat} {A : Nat → Prop} {p : Program} {l : Launch} {e : Env} {s : State} {m : MethodId} {args : Array Value} {below : List Frame} {meth : Method} {c : Code} {K : zK} {r : Int} {F9 : zF} {B9 : zB} (X : zX D ca L aS vS A p s m args meth c prog_4_method_12_code 10 (Option.none : Option Jvm.ClassFile.FieldType) "StaveHouse$Layout") {rec83 : Int → Int → Int → Int → Int → Int → Int → zF → zB → zO} (hrec83 : ∀ {l8 : Int} {l7 : Int} {l6 : Int} {l5 : Int} {l4 : Int} {l0 : Int} {l2 : Int} {F : zF} {B : zB} {H : Heap} {locs : List Loc} {ls : Array Slot}, rec83 l8 l7 l6 l5 l4 l0 l2 F B = some (r, F9, B9) → zH D ca ad lnC K.2 L F B A H → va_S A s.heap H locs → lv_has ls 10 [(8, .int (iI l8)), (7, .int (iI l7)), (6, .int (iI l6)), (5, .int (iI l5)), (4, .int (iI l4)), (0, .ref (ad 2 l0 0)), (2, .int (iI l2))] → W p l e ({ frames := 2, cells := 0, slots := 0, locals := 36 } : Room) s m args below meth c H locs 0 0 (MQ below (Q_Layout_setXs K D ca ad L r F9 B9 A) args s 0 0 A) (F0 m 83 ls [])) : ∀ {n : Nat} {l9 : Int} {l4 : Int} {l8 : Int} {l7 : Int} {l6 : Int} {l5 : Int} {l0 : Int} {l2 : Int} {F : zF} {B : zB} {H : Heap} {locs : List Loc} {ls : Array Slot}, f_Layout_setXs_108 rec83 K n l9 l4 l8 l7 l6 l5 l0 l2 F B = some (r, F9, B9) → zH D ca ad lnC K.2 L F B A H → va_S A s.heap H locs → lv_has ls 10 [(9, .int (iI l9)), (4, .int (iI l4)), (8, .int (iI l8)), (7, .int (iI l7)), (6, .int (iI l6)), (5, .int (iI l5)), (0, .ref (ad 2 l0 0)), (2, .int (iI l2))] → W p l e ({ frames := 2, cells := 0, slots := 0, locals := 36 } : Room) s m args below meth c H locs 0 0 (MQ below (Q_Layout_setXs K D ca ad L r F9 B9 A) args s 0 0 A) (F0 m 108 ls []) := by
  obtain ⟨hx, hb, hr, hml, hown, hts, hlk, hK, hA, hL, hX⟩ := id X
  intro n
  induction n with
  | zero =>
    intros
    rename_i hf _ _ _
    cases hf
  | succ n ih =>
    intro l9 l4 l8 l7 l6 l5 l0 l2 F B H locs ls hf hZ hS hl
    replace hf : (if 0 ≤ l0 ∧ l0 < K.2 2 then if 0 ≤ (l8 + 1) ∧ (l8 + 1) < 101 then if r32 l9 then if r32 (B 2 l0 5 (l8 + 1)) then (if (B 2 l0 5 (l8 + 1)) ≤ l9 then rec83 (l8 + 1) l7 l6 l5 l4 l0 l2 F B else if ¬ iI l6 = 0 then if 0 ≤ l9 ∧ l9 < 3200 then f_Layout_setXs_108 rec83 K n (l9 + 1) (l4 + ((zup4 B 2 l0 3 l9 (l4 + (zdv (l7 * (l9 - l5)) l6))) 2 l0 2 l9)) l8 l7 l6 l5 l0 l2 F (zup4 B 2 l0 3 l9 (l4 + (zdv (l7 * (l9 - l5)) l6))) else none else none) else none else none else none else none) = some (r, F9, B9) := hf
    refine lv_iload hx hb (D_21 W_prog_4_method_12_code_96 12 rfl rfl) (lv_at hl 0 rfl) ?_
    refine lv_aload_n hx hb (D_42 W_prog_4_method_12_code_96 14 rfl rfl) rfl (lv_at hl 6 rfl) ?_
    obtain ⟨g21, hf⟩ := gif hf
    refine zget (ci := 2) (C := RX2) (T := TX2) (v := .ref (ad 2 l0 (5 + 1))) (k := 5) hx hb hts inW_2 hown hK hZ g21.1 g21.2 rfl (by decide) k_6_222 rfl (D_180 W_prog_4_method_12_code_96 15 rfl rfl rfl) ?_
    refine lv_iload hx hb (D_21 W_prog_4_method_12_code_96 18 rfl rfl) (lv_at hl 2 rfl) ?_
    refine lv_iconst (v := iI 1) hx hb (D_4 W_prog_4_method_12_code_96 20 rfl rfl) rfl ?_
    refine zadd hx hb (D_96 W_prog_4_method_12_code_96 21 rfl rfl) ?_
    obtain ⟨g22, hf⟩ := gif hf
    refine zald (ci := 2) (k := 5) hx hb hK rfl hZ g21.1 g21.2 rfl (Nat.le_of_ble_eq_true rfl) g22.1 g22.2 (D_46 W_prog_4_method_12_code_96 22 rfl rfl) ?_
    obtain ⟨g23, hf⟩ := gif hf
    obtain ⟨g24, hf⟩ := gif hf
    refine zge (tgt := 161) hx hb g23 g24 (D_162 W_prog_4_method_12_code_96 23 rfl rfl rfl) (by decide) (fun h25 => ?_) (fun h25 => ?_)
    · replace hf := gpos hf h25
      refine lv_iinc (v := iI (l8 + 1)) (lv' := [(8, .int (iI (l8 + 1))), (9, .int (iI l9)), (4, .int (iI l4)), (7, .int (iI l7)), (6, .int (iI l6)), (5, .int (iI l5)), (0, .ref (ad 2 l0 0)), (2, .int (iI l2))]) hx hb d_4_12_161 hl (k := 2) rfl (iI_add _ 1) (by decide) rfl (fun ls hl => ?_)
      refine lv_goto (tgt := 83) hx hb (D_167 W_prog_4_method_12_code_160 4 rfl rfl rfl) (by decide) ?_
      exact hrec83 hf hZ hS (lv_sub hl [0, 3, 4, 5, 2, 6, 7] rfl)
    · replace hf := gneg hf h25
      refine lv_aload_n hx hb (D_42 W_prog_4_method_12_code_96 26 rfl rfl) rfl (lv_at hl 6 rfl) ?_
      refine zget (ci := 2) (C := RX2) (T := TX2) (v := .ref (ad 2 l0 (3 + 1))) (k := 3) hx hb hts inW_2 hown hK hZ g21.1 g21.2 rfl (by decide) k_6_220 rfl (D_180 W_prog_4_method_12_code_96 27 rfl rfl rfl) ?_
      refine lv_iload hx hb (D_21 W_prog_4_method_12_code_96 30 rfl rfl) (lv_at hl 0 rfl) ?_
      refine lv_iload hx hb (D_21 W_prog_4_method_12_code_128 0 rfl rfl) (lv_at hl 1 rfl) ?_
      refine lv_iload hx hb (D_21 W_prog_4_method_12_code_128 2 rfl rfl) (lv_at hl 3 rfl) ?_
      refine lv_iload hx hb (D_21 W_prog_4_method_12_code_128 4 rfl rfl) (lv_at hl 0 rfl) ?_
      refine lv_iload hx hb (D_21 W_prog_4_method_12_code_128 6 rfl rfl) (lv_at hl 5 rfl) ?_
      refine zsub hx hb (D_100 W_prog_4_method_12_code_128 8 rfl rfl) ?_
      refine zmul hx hb (D_104 W_prog_4_method_12_code_128 9 rfl rfl) ?_
      refine lv_iload hx hb (D_21 W_prog_4_method_12_code_128 10 rfl rfl) (lv_at hl 4 rfl) ?_
      obtain ⟨g26, hf⟩ := gif hf
      refine zdv_r hx hb g26 (D_108 W_prog_4_method_12_code_128 12 rfl rfl) ?_
      refine zadd hx hb (D_96 W_prog_4_method_12_code_128 13 rfl rfl) ?_
      obtain ⟨g27, hf⟩ := gif hf
      refine zast (ci := 2) (k := 3) hx hb hK rfl hZ hS g21.1 g21.2 rfl (Nat.le_of_ble_eq_true rfl) g27.1 g27.2 (D_79 W_prog_4_method_12_code_128 14 rfl rfl) (fun H28 locs28 hZ28 hS28 => ?_)
      refine lv_iload hx hb (D_21 W_prog_4_method_12_code_128 15 rfl rfl) (lv_at hl 1 rfl) ?_
      refine lv_aload_n hx hb (D_42 W_prog_4_method_12_code_128 17 rfl rfl) rfl (lv_at hl 6 rfl) ?_
      refine zget (ci := 2) (C := RX2) (T := TX2) (v := .ref (ad 2 l0 (2 + 1))) (k := 2) hx hb hts inW_2 hown hK hZ28 g21.1 g21.2 rfl (by decide) k_6_219 rfl (D_180 W_prog_4_method_12_code_128 18 rfl rfl rfl) ?_
      refine lv_iload hx hb (D_21 W_prog_4_method_12_code_128 21 rfl rfl) (lv_at hl 0 rfl) ?_
      refine zald (ci := 2) (k := 2) hx hb hK rfl hZ28 g21.1 g21.2 rfl (Nat.le_of_ble_eq_true rfl) g27.1 g27.2 (D_46 W_prog_4_method_12_code_128 23 rfl rfl) ?_
      refine zadd hx hb (D_96 W_prog_4_method_12_code_128 24 rfl rfl) ?_
      refine lv_istore (lv' := [(4, .int (iI (l4 + ((zup4 B 2 l0 3 l9 (l4 + (zdv (l7 * (l9 - l5)) l6))) 2 l0 2 l9)))), (9, .int (iI l9)), (8, .int (iI l8)), (7, .int (iI l7)), (6, .int (iI l6)), (5, .int (iI l5)), (0, .ref (ad 2 l0 0)), (2, .int (iI l2))]) hx hb (D_54 W_prog_4_method_12_code_128 25 rfl rfl) hl (by decide) rfl (fun ls hl => ?_)
      refine lv_iinc (v := iI (l9 + 1)) (lv' := [(9, .int (iI (l9 + 1))), (4, .int (iI (l4 + ((zup4 B 2 l0 3 l9 (l4 + (zdv (l7 * (l9 - l5)) l6))) 2 l0 2 l9)))), (8, .int (iI l8)), (7, .int (iI l7)), (6, .int (iI l6)), (5, .int (iI l5)), (0, .ref (ad 2 l0 0)), (2, .int (iI l2))]) hx hb d_4_12_155 hl (k := 1) rfl (iI_add _ 1) (by decide) rfl (fun ls hl => ?_)
      refine lv_goto (tgt := 108) hx hb (D_167 W_prog_4_method_12_code_128 30 rfl rfl rfl) (by decide) ?_
      exact ih hf hZ28 hS28 (lv_sub hl [0, 1, 2, 3, 4, 5, 6, 7] rfl)

def f_Layout_setXs_83 (K : zK) : Nat → Int → Int → Int → Int → Int → Int → Int → zF → zB → zO
  | 0, _, _, _, _, _, _, _, _, _ => none
  | n + 1, l8, l7, l6, l5, l4, l0, l2, F, B => if 0 ≤ l0 ∧ l0 < K.2 2 then if 0 ≤ (l2 + 1) ∧ (l2 + 1) < 101 then if r32 l8 then if r32 (B 2 l0 7 (l2 + 1)) then (if (B 2 l0 7 (l2 + 1)) ≤ l8 then some (0, F, B) else if 0 ≤ l8 ∧ l8 < 101 then f_Layout_setXs_108 (f_Layout_setXs_83 K n) K K.1 (B 2 l0 5 l8) (l4 + 6) l8 l7 l6 l5 l0 l2 F B else none) else none else none else none else none
set_option maxHeartbeats 4000000 in
set_option maxRecDepth 100000 in
theorem b_Layout_setXs_83 {D : va_G} {ca : Nat → ClassId} {ad : Nat → Int → Nat → Nat} {L : List Nat} {aS vS : Nat → Nat} {A : Nat → Prop} {p : Program} {l : Launch} {e : Env} {s : State} {m : MethodId} {args : Array Value} {below : List Frame} {meth : Method} {c : Code} {K : zK} {r : Int} {F9 : zF} {B9 : zB} (X : zX D ca L aS vS A p s m args meth c prog_4_method_12_code 10 (Option.none : Option Jvm.ClassFile.FieldType) "StaveHouse$Layout") : ∀ {n : Nat} {l8 : Int} {l7 : Int} {l6 : Int} {l5 : Int} {l4 : Int} {l0 : Int} {l2 : Int} {F : zF} {B : zB} {H : Heap} {locs : List Loc} {ls : Array Slot}, f_Layout_setXs_83 K n l8 l7 l6 l5 l4 l0 l2 F B = some (r, F9, B9) → zH D ca ad lnC K.2 L F B A H → va_S A s.heap H locs → lv_has ls 10 [(8, .int (iI l8)), (7, .int (iI l7)), (6, .int (iI l6)), (5, .int (iI l5)), (4, .int (iI l4)), (0, .ref (ad 2 l0 0)), (2, .int (iI l2))] → W p l e ({ frames := 2, cells := 0, slots := 0, locals := 36 } : Room) s m args below meth c H locs 0 0 (MQ below (Q_Layout_setXs K D ca ad L r F9 B9 A) args s 0 0 A) (F0 m 83 ls []) := by
  obtain ⟨hx, hb, hr, hml, hown, hts, hlk, hK, hA, hL, hX⟩ := id X
  intro n
  induction n with
  | zero =>
    intros
    rename_i hf _ _ _
    cases hf
  | succ n ih =>
    intro l8 l7 l6 l5 l4 l0 l2 F B H locs ls hf hZ hS hl
    replace hf : (if 0 ≤ l0 ∧ l0 < K.2 2 then if 0 ≤ (l2 + 1) ∧ (l2 + 1) < 101 then if r32 l8 then if r32 (B 2 l0 7 (l2 + 1)) then (if (B 2 l0 7 (l2 + 1)) ≤ l8 then some (0, F, B) else if 0 ≤ l8 ∧ l8 < 101 then f_Layout_setXs_108 (f_Layout_setXs_83 K n) K K.1 (B 2 l0 5 l8) (l4 + 6) l8 l7 l6 l5 l0 l2 F B else none) else none else none else none else none) = some (r, F9, B9) := hf
    refine lv_iload hx hb (D_21 W_prog_4_method_12_code_64 19 rfl rfl) (lv_at hl 0 rfl) ?_
    refine lv_aload_n hx hb (D_42 W_prog_4_method_12_code_64 21 rfl rfl) rfl (lv_at hl 5 rfl) ?_
    obtain ⟨g15, hf⟩ := gif hf
    refine zget (ci := 2) (C := RX2) (T := TX2) (v := .ref (ad 2 l0 (7 + 1))) (k := 7) hx hb hts inW_2 hown hK hZ g15.1 g15.2 rfl (by decide) k_6_224 rfl (D_180 W_prog_4_method_12_code_64 22 rfl rfl rfl) ?_
    refine lv_iload_n hx hb (D_28 W_prog_4_method_12_code_64 25 rfl rfl) rfl (lv_at hl 6 rfl) ?_
    refine lv_iconst (v := iI 1) hx hb (D_4 W_prog_4_method_12_code_64 26 rfl rfl) rfl ?_
    refine zadd hx hb (D_96 W_prog_4_method_12_code_64 27 rfl rfl) ?_
    obtain ⟨g16, hf⟩ := gif hf
    refine zald (ci := 2) (k := 7) hx hb hK rfl hZ g15.1 g15.2 rfl (Nat.le_of_ble_eq_true rfl) g16.1 g16.2 (D_46 W_prog_4_method_12_code_64 28 rfl rfl) ?_
    obtain ⟨g17, hf⟩ := gif hf
    obtain ⟨g18, hf⟩ := gif hf
    refine zge (tgt := 167) hx hb g17 g18 (D_162 W_prog_4_method_12_code_64 29 rfl rfl rfl) (by decide) (fun h19 => ?_) (fun h19 => ?_)
    · replace hf := gpos hf h19
      cases hf
      exact W.vret hx hb hr (fun t ht hW => ⟨⟨(), rfl, trivial, by rw [ht]; exact hZ, va_K.moved hW.alike hK⟩, hS.F ht⟩) hS.2.2 (D_177 W_prog_4_method_12_code_160 7 rfl rfl) hlk
    · replace hf := gneg hf h19
      refine lv_iinc (v := iI (l4 + 6)) (lv' := [(4, .int (iI (l4 + 6))), (8, .int (iI l8)), (7, .int (iI l7)), (6, .int (iI l6)), (5, .int (iI l5)), (0, .ref (ad 2 l0 0)), (2, .int (iI l2))]) hx hb d_4_12_96 hl (k := 4) rfl (iI_add _ 6) (by decide) rfl (fun ls hl => ?_)
      refine lv_aload_n hx hb (D_42 W_prog_4_method_12_code_96 3 rfl rfl) rfl (lv_at hl 5 rfl) ?_
      refine zget (ci := 2) (C := RX2) (T := TX2) (v := .ref (ad 2 l0 (5 + 1))) (k := 5) hx hb hts inW_2 hown hK hZ g15.1 g15.2 rfl (by decide) k_6_222 rfl (D_180 W_prog_4_method_12_code_96 4 rfl rfl rfl) ?_
      refine lv_iload hx hb (D_21 W_prog_4_method_12_code_96 7 rfl rfl) (lv_at hl 1 rfl) ?_
      obtain ⟨g20, hf⟩ := gif hf
      refine zald (ci := 2) (k := 5) hx hb hK rfl hZ g15.1 g15.2 rfl (Nat.le_of_ble_eq_true rfl) g20.1 g20.2 (D_46 W_prog_4_method_12_code_96 9 rfl rfl) ?_
      refine lv_istore (lv' := [(9, .int (iI (B 2 l0 5 l8))), (4, .int (iI (l4 + 6))), (8, .int (iI l8)), (7, .int (iI l7)), (6, .int (iI l6)), (5, .int (iI l5)), (0, .ref (ad 2 l0 0)), (2, .int (iI l2))]) hx hb (D_54 W_prog_4_method_12_code_96 10 rfl rfl) hl (by decide) rfl (fun ls hl => ?_)
      exact b_Layout_setXs_108 X ih hf hZ hS (lv_sub hl [0, 1, 2, 3, 4, 5, 6, 7] rfl)

def f_Layout_setXs_73 (K : zK) (l6 : Int) (l5 : Int) (l4 : Int) (l0 : Int) (l2 : Int) (s0 : Int) (F : zF) (B : zB) : zO := if 0 ≤ l0 ∧ l0 < K.2 2 then if 0 ≤ l2 ∧ l2 < 101 then f_Layout_setXs_83 K K.1 (B 2 l0 7 l2) s0 l6 l5 l4 l0 l2 F B else none else none
set_option maxHeartbeats 4000000 in
set_option maxRecDepth 100000 in
theorem b_Layout_setXs_73 {D : va_G} {ca : Nat → ClassId} {ad : Nat → Int → Nat → Nat} {L : List Nat} {aS vS : Nat → Nat} {A : Nat → Prop} {p : Program} {l : Launch} {e : Env} {s : State} {m : MethodId} {args : Array Value} {below : List Frame} {meth : Method} {c : Code} {K : zK} {r : Int} {F9 : zF} {B9 : zB} (X : zX D ca L aS vS A p s m args meth c prog_4_method_12_code 10 (Option.none : Option Jvm.ClassFile.FieldType) "StaveHouse$Layout") {l6 : Int} {l5 : Int} {l4 : Int} {l0 : Int} {l2 : Int} {s0 : Int} {F : zF} {B : zB} {H : Heap} {locs : List Loc} {ls : Array Slot} (hf : f_Layout_setXs_73 K l6 l5 l4 l0 l2 s0 F B = some (r, F9, B9)) (hZ : zH D ca ad lnC K.2 L F B A H) (hS : va_S A s.heap H locs) (hl : lv_has ls 10 [(6, .int (iI l6)), (5, .int (iI l5)), (4, .int (iI l4)), (0, .ref (ad 2 l0 0)), (2, .int (iI l2))]) : W p l e ({ frames := 2, cells := 0, slots := 0, locals := 36 } : Room) s m args below meth c H locs 0 0 (MQ below (Q_Layout_setXs K D ca ad L r F9 B9 A) args s 0 0 A) (F0 m 73 ls [.int (iI s0)]) := by
  obtain ⟨hx, hb, hr, hml, hown, hts, hlk, hK, hA, hL, hX⟩ := id X
  replace hf : (if 0 ≤ l0 ∧ l0 < K.2 2 then if 0 ≤ l2 ∧ l2 < 101 then f_Layout_setXs_83 K K.1 (B 2 l0 7 l2) s0 l6 l5 l4 l0 l2 F B else none else none) = some (r, F9, B9) := hf
  refine lv_istore (lv' := [(7, .int (iI s0)), (6, .int (iI l6)), (5, .int (iI l5)), (4, .int (iI l4)), (0, .ref (ad 2 l0 0)), (2, .int (iI l2))]) hx hb (D_54 W_prog_4_method_12_code_64 9 rfl rfl) hl (by decide) rfl (fun ls hl => ?_)
  refine lv_aload_n hx hb (D_42 W_prog_4_method_12_code_64 11 rfl rfl) rfl (lv_at hl 4 rfl) ?_
  obtain ⟨g13, hf⟩ := gif hf
  refine zget (ci := 2) (C := RX2) (T := TX2) (v := .ref (ad 2 l0 (7 + 1))) (k := 7) hx hb hts inW_2 hown hK hZ g13.1 g13.2 rfl (by decide) k_6_224 rfl (D_180 W_prog_4_method_12_code_64 12 rfl rfl rfl) ?_
  refine lv_iload_n hx hb (D_28 W_prog_4_method_12_code_64 15 rfl rfl) rfl (lv_at hl 5 rfl) ?_
  obtain ⟨g14, hf⟩ := gif hf
  refine zald (ci := 2) (k := 7) hx hb hK rfl hZ g13.1 g13.2 rfl (Nat.le_of_ble_eq_true rfl) g14.1 g14.2 (D_46 W_prog_4_method_12_code_64 16 rfl rfl) ?_
  refine lv_istore (lv' := [(8, .int (iI (B 2 l0 7 l2))), (7, .int (iI s0)), (6, .int (iI l6)), (5, .int (iI l5)), (4, .int (iI l4)), (0, .ref (ad 2 l0 0)), (2, .int (iI l2))]) hx hb (D_54 W_prog_4_method_12_code_64 17 rfl rfl) hl (by decide) rfl (fun ls hl => ?_)
  exact b_Layout_setXs_83 X hf hZ hS (lv_sub hl [0, 1, 2, 3, 4, 5, 6] rfl)

def f_Layout_setXs (K : zK) (l0 : Int) (l1 : Int) (l2 : Int) (l3 : Int) (F : zF) (B : zB) : zO := if 0 ≤ l0 ∧ l0 < K.2 2 then if 0 ≤ l2 ∧ l2 < 101 then zbind (f_Layout_lead K l1 (B 2 l0 7 l2) F B) (fun r3 F3 B3 => if 0 ≤ (B3 2 l0 7 l2) ∧ (B3 2 l0 7 l2) < 101 then if 0 ≤ (l2 + 1) ∧ (l2 + 1) < 101 then if 0 ≤ (B3 2 l0 7 (l2 + 1)) ∧ (B3 2 l0 7 (l2 + 1)) < 101 then if r32 ((B3 2 l0 5 (B3 2 l0 7 (l2 + 1))) - (B3 2 l0 5 (B3 2 l0 7 l2))) then if r32 (l2 + 1) then if r32 (F3 2 l0 0) then (if (F3 2 l0 0) ≤ (l2 + 1) then f_Layout_setXs_73 K (zmax ((B3 2 l0 5 (B3 2 l0 7 (l2 + 1))) - (B3 2 l0 5 (B3 2 l0 7 l2))) 1) (B3 2 l0 5 (B3 2 l0 7 l2)) r3 l0 l2 0 F3 B3 else if 0 ≤ l2 ∧ l2 < 100 then if r32 (l3 - (B3 2 l0 8 l2)) then f_Layout_setXs_73 K (zmax ((B3 2 l0 5 (B3 2 l0 7 (l2 + 1))) - (B3 2 l0 5 (B3 2 l0 7 l2))) 1) (B3 2 l0 5 (B3 2 l0 7 l2)) r3 l0 l2 (zmax (l3 - (B3 2 l0 8 l2)) 0) F3 B3 else none else none) else none else none else none else none else none else none) else none else none
set_option maxHeartbeats 4000000 in
set_option maxRecDepth 100000 in
theorem c_Layout_setXs {l : Launch} {D : va_G} {ca : Nat → ClassId} {ad : Nat → Int → Nat → Nat} {L : List Nat} {aS vS : Nat → Nat} {sz : Nat} {K : zK}  {l0 : Int} {l1 : Int} {l2 : Int} {l3 : Int} {F F9 : zF} {B B9 : zB} {r : Int} (hf : f_Layout_setXs K l0 l1 l2 l3 F B = some (r, F9, B9)) : Met l ({ cls := "StaveHouse$Layout", name := "setXs", desc := "(LStaveHouse$Piece;II)V" } : Jvm.MethodName) (Cond.code ({ cls := "StaveHouse$Layout", name := "setXs", desc := "(LStaveHouse$Piece;II)V" } : Jvm.MethodName) prog_4_method_12_code 10 (Option.none : Option Jvm.ClassFile.FieldType) :: wAll) ({ frames := 2, cells := 0, slots := 0, locals := 36 } : Room) (va_Pc [.ref (ad 2 l0 0), .ref (ad 6 l1 0), .int (iI l2), .int (iI l3)] (zPre D ca ad lnC K.2 L aS vS F B sz)) (Q_Layout_setXs K D ca ad L r F9 B9 (zA L sz)) 0 0 (zA L sz) := by
  refine zMet (Qc := Q_Layout_setXs K D ca ad L r F9 B9) (lv := [(0, .ref (ad 2 l0 0)), (1, .ref (ad 6 l1 0)), (2, .int (iI l2)), (3, .int (iI l3))]) (by decide) (Nat.le_of_ble_eq_true rfl) rfl (fun A p e s m below meth c ls X hZ hS hl => ?_)
  obtain ⟨hx, hb, hr, hml, hown, hts, hlk, hK, hA, hL, hX⟩ := id X
  replace hf : (if 0 ≤ l0 ∧ l0 < K.2 2 then if 0 ≤ l2 ∧ l2 < 101 then zbind (f_Layout_lead K l1 (B 2 l0 7 l2) F B) (fun r3 F3 B3 => if 0 ≤ (B3 2 l0 7 l2) ∧ (B3 2 l0 7 l2) < 101 then if 0 ≤ (l2 + 1) ∧ (l2 + 1) < 101 then if 0 ≤ (B3 2 l0 7 (l2 + 1)) ∧ (B3 2 l0 7 (l2 + 1)) < 101 then if r32 ((B3 2 l0 5 (B3 2 l0 7 (l2 + 1))) - (B3 2 l0 5 (B3 2 l0 7 l2))) then if r32 (l2 + 1) then if r32 (F3 2 l0 0) then (if (F3 2 l0 0) ≤ (l2 + 1) then f_Layout_setXs_73 K (zmax ((B3 2 l0 5 (B3 2 l0 7 (l2 + 1))) - (B3 2 l0 5 (B3 2 l0 7 l2))) 1) (B3 2 l0 5 (B3 2 l0 7 l2)) r3 l0 l2 0 F3 B3 else if 0 ≤ l2 ∧ l2 < 100 then if r32 (l3 - (B3 2 l0 8 l2)) then f_Layout_setXs_73 K (zmax ((B3 2 l0 5 (B3 2 l0 7 (l2 + 1))) - (B3 2 l0 5 (B3 2 l0 7 l2))) 1) (B3 2 l0 5 (B3 2 l0 7 l2)) r3 l0 l2 (zmax (l3 - (B3 2 l0 8 l2)) 0) F3 B3 else none else none) else none else none else none else none else none else none) else none else none) = some (r, F9, B9) := hf
  refine lv_aload_n hx hb (D_43 W_prog_4_method_12_code_0 0 rfl rfl) rfl (lv_at hl 1 rfl) ?_
  refine lv_aload_n hx hb (D_42 W_prog_4_method_12_code_0 1 rfl rfl) rfl (lv_at hl 0 rfl) ?_
  obtain ⟨g1, hf⟩ := gif hf
  refine zget (ci := 2) (C := RX2) (T := TX2) (v := .ref (ad 2 l0 (7 + 1))) (k := 7) hx hb hts inW_2 hown hK hZ g1.1 g1.2 rfl (by decide) k_6_224 rfl (D_180 W_prog_4_method_12_code_0 2 rfl rfl rfl) ?_
  refine lv_iload_n hx hb (D_28 W_prog_4_method_12_code_0 5 rfl rfl) rfl (lv_at hl 2 rfl) ?_
  obtain ⟨g2, hf⟩ := gif hf
  refine zald (ci := 2) (k := 7) hx hb hK rfl hZ g1.1 g1.2 rfl (Nat.le_of_ble_eq_true rfl) g2.1 g2.2 (D_46 W_prog_4_method_12_code_0 6 rfl rfl) ?_
  obtain ⟨r3, F3, B3, hc3, hf⟩ := gbind hf
  refine va_calli (va_runS (As := [.ref (ad 6 l1 0), .int (iI (B 2 l0 7 l2))]) (rest := []) ⟨hx, hb, hml, hown, hts⟩ (c_Layout_lead (l := l) hc3) (va_cwS 2 hts (gdS k_7_50 k_7_51 k_1_21 k_7_52) rfl rfl rfl (by decide +kernel) ⟨Nat.le_of_ble_eq_true rfl, Nat.le_of_ble_eq_true rfl⟩) (zPS X hZ hS [.ref (ad 6 l1 0), .int (iI (B 2 l0 7 l2))]) rfl rfl hl.1 rfl (lv_room (Nat.le_of_ble_eq_true rfl)) (D_184 W_prog_4_method_12_code_0 7 rfl rfl rfl) ⟨Nat.le_of_ble_eq_true rfl, Nat.le_of_ble_eq_true rfl⟩) hS (fun q _ h => zAin X hS q h) (zAin X hS) (fun p3 u3 t3 H3 locs3 ht3 hv3 hw3 hB3 hz3 hk3 hS3 => ?_)
  have hZ3 := zBack X ht3 hB3
  subst hw3
  refine lv_istore (lv' := [(4, .int (iI r3)), (0, .ref (ad 2 l0 0)), (1, .ref (ad 6 l1 0)), (2, .int (iI l2)), (3, .int (iI l3))]) hx hb (D_54 W_prog_4_method_12_code_0 10 rfl rfl) hl (by decide) rfl (fun ls hl => ?_)
  refine lv_aload_n hx hb (D_42 W_prog_4_method_12_code_0 12 rfl rfl) rfl (lv_at hl 1 rfl) ?_
  refine zget (ci := 2) (C := RX2) (T := TX2) (v := .ref (ad 2 l0 (5 + 1))) (k := 5) hx hb hts inW_2 hown hK hZ3 g1.1 g1.2 rfl (by decide) k_6_222 rfl (D_180 W_prog_4_method_12_code_0 13 rfl rfl rfl) ?_
  refine lv_aload_n hx hb (D_42 W_prog_4_method_12_code_0 16 rfl rfl) rfl (lv_at hl 1 rfl) ?_
  refine zget (ci := 2) (C := RX2) (T := TX2) (v := .ref (ad 2 l0 (7 + 1))) (k := 7) hx hb hts inW_2 hown hK hZ3 g1.1 g1.2 rfl (by decide) k_6_224 rfl (D_180 W_prog_4_method_12_code_0 17 rfl rfl rfl) ?_
  refine lv_iload_n hx hb (D_28 W_prog_4_method_12_code_0 20 rfl rfl) rfl (lv_at hl 3 rfl) ?_
  refine zald (ci := 2) (k := 7) hx hb hK rfl hZ3 g1.1 g1.2 rfl (Nat.le_of_ble_eq_true rfl) g2.1 g2.2 (D_46 W_prog_4_method_12_code_0 21 rfl rfl) ?_
  obtain ⟨g4, hf⟩ := gif hf
  refine zald (ci := 2) (k := 5) hx hb hK rfl hZ3 g1.1 g1.2 rfl (Nat.le_of_ble_eq_true rfl) g4.1 g4.2 (D_46 W_prog_4_method_12_code_0 22 rfl rfl) ?_
  refine lv_istore (lv' := [(5, .int (iI (B3 2 l0 5 (B3 2 l0 7 l2)))), (4, .int (iI r3)), (0, .ref (ad 2 l0 0)), (1, .ref (ad 6 l1 0)), (2, .int (iI l2)), (3, .int (iI l3))]) hx hb (D_54 W_prog_4_method_12_code_0 23 rfl rfl) hl (by decide) rfl (fun ls hl => ?_)
  refine lv_aload_n hx hb (D_42 W_prog_4_method_12_code_0 25 rfl rfl) rfl (lv_at hl 2 rfl) ?_
  refine zget (ci := 2) (C := RX2) (T := TX2) (v := .ref (ad 2 l0 (5 + 1))) (k := 5) hx hb hts inW_2 hown hK hZ3 g1.1 g1.2 rfl (by decide) k_6_222 rfl (D_180 W_prog_4_method_12_code_0 26 rfl rfl rfl) ?_
  refine lv_aload_n hx hb (D_42 W_prog_4_method_12_code_0 29 rfl rfl) rfl (lv_at hl 2 rfl) ?_
  refine zget (ci := 2) (C := RX2) (T := TX2) (v := .ref (ad 2 l0 (7 + 1))) (k := 7) hx hb hts inW_2 hown hK hZ3 g1.1 g1.2 rfl (by decide) k_6_224 rfl (D_180 W_prog_4_method_12_code_0 30 rfl rfl rfl) ?_
  refine lv_iload_n hx hb (D_28 W_prog_4_method_12_code_32 1 rfl rfl) rfl (lv_at hl 4 rfl) ?_
  refine lv_iconst (v := iI 1) hx hb (D_4 W_prog_4_method_12_code_32 2 rfl rfl) rfl ?_
  refine zadd hx hb (D_96 W_prog_4_method_12_code_32 3 rfl rfl) ?_
  obtain ⟨g5, hf⟩ := gif hf
  refine zald (ci := 2) (k := 7) hx hb hK rfl hZ3 g1.1 g1.2 rfl (Nat.le_of_ble_eq_true rfl) g5.1 g5.2 (D_46 W_prog_4_method_12_code_32 4 rfl rfl) ?_
  obtain ⟨g6, hf⟩ := gif hf
  refine zald (ci := 2) (k := 5) hx hb hK rfl hZ3 g1.1 g1.2 rfl (Nat.le_of_ble_eq_true rfl) g6.1 g6.2 (D_46 W_prog_4_method_12_code_32 5 rfl rfl) ?_
  refine lv_iload hx hb (D_21 W_prog_4_method_12_code_32 6 rfl rfl) (lv_at hl 0 rfl) ?_
  refine zsub hx hb (D_100 W_prog_4_method_12_code_32 8 rfl rfl) ?_
  refine lv_iconst (v := iI 1) hx hb (D_4 W_prog_4_method_12_code_32 9 rfl rfl) rfl ?_
  obtain ⟨g7, hf⟩ := gif hf
  refine va_mmax hx hb (by rw [hml]; exact hl.1.symm) hown (hts _ k_7_38) (hts _ k_1_39) (hts _ k_1_3) (hts _ k_1_40) (Nat.le_of_ble_eq_true rfl) (Nat.le_of_ble_eq_true rfl) (Nat.le_of_ble_eq_true rfl) (Nat.le_of_ble_eq_true rfl) (D_184 W_prog_4_method_12_code_32 10 rfl rfl rfl) ?_
  rw [zmax_e g7 (by decide)]
  refine lv_istore (lv' := [(6, .int (iI (zmax ((B3 2 l0 5 (B3 2 l0 7 (l2 + 1))) - (B3 2 l0 5 (B3 2 l0 7 l2))) 1))), (5, .int (iI (B3 2 l0 5 (B3 2 l0 7 l2)))), (4, .int (iI r3)), (0, .ref (ad 2 l0 0)), (1, .ref (ad 6 l1 0)), (2, .int (iI l2)), (3, .int (iI l3))]) hx hb (D_54 W_prog_4_method_12_code_32 13 rfl rfl) hl (by decide) rfl (fun ls hl => ?_)
  refine lv_iload_n hx hb (D_28 W_prog_4_method_12_code_32 15 rfl rfl) rfl (lv_at hl 5 rfl) ?_
  refine lv_iconst (v := iI 1) hx hb (D_4 W_prog_4_method_12_code_32 16 rfl rfl) rfl ?_
  refine zadd hx hb (D_96 W_prog_4_method_12_code_32 17 rfl rfl) ?_
  refine lv_aload_n hx hb (D_42 W_prog_4_method_12_code_32 18 rfl rfl) rfl (lv_at hl 3 rfl) ?_
  refine zget (ci := 2) (C := RX2) (T := TX2) (v := .int (iI (F3 2 l0 0))) (k := 0) hx hb hts inW_2 hown hK hZ3 g1.1 g1.2 rfl (by decide) k_6_215 rfl (D_180 W_prog_4_method_12_code_32 19 rfl rfl rfl) ?_
  obtain ⟨g8, hf⟩ := gif hf
  obtain ⟨g9, hf⟩ := gif hf
  refine zge (tgt := 72) hx hb g8 g9 (D_162 W_prog_4_method_12_code_32 22 rfl rfl rfl) (by decide) (fun h10 => ?_) (fun h10 => ?_)
  · replace hf := gpos hf h10
    refine lv_iconst (v := iI 0) hx hb (D_3 W_prog_4_method_12_code_64 8 rfl rfl) rfl ?_
    exact b_Layout_setXs_73 X hf hZ3 hS3 (lv_sub hl [0, 1, 2, 3, 5] rfl)
  · replace hf := gneg hf h10
    refine lv_iload_n hx hb (D_29 W_prog_4_method_12_code_32 25 rfl rfl) rfl (lv_at hl 6 rfl) ?_
    refine lv_aload_n hx hb (D_42 W_prog_4_method_12_code_32 26 rfl rfl) rfl (lv_at hl 3 rfl) ?_
    refine zget (ci := 2) (C := RX2) (T := TX2) (v := .ref (ad 2 l0 (8 + 1))) (k := 8) hx hb hts inW_2 hown hK hZ3 g1.1 g1.2 rfl (by decide) k_6_225 rfl (D_180 W_prog_4_method_12_code_32 27 rfl rfl rfl) ?_
    refine lv_iload_n hx hb (D_28 W_prog_4_method_12_code_32 30 rfl rfl) rfl (lv_at hl 5 rfl) ?_
    obtain ⟨g11, hf⟩ := gif hf
    refine zald (ci := 2) (k := 8) hx hb hK rfl hZ3 g1.1 g1.2 rfl (Nat.le_of_ble_eq_true rfl) g11.1 g11.2 (D_46 W_prog_4_method_12_code_32 31 rfl rfl) ?_
    refine zsub hx hb (D_100 W_prog_4_method_12_code_64 0 rfl rfl) ?_
    refine lv_iconst (v := iI 0) hx hb (D_3 W_prog_4_method_12_code_64 1 rfl rfl) rfl ?_
    obtain ⟨g12, hf⟩ := gif hf
    refine va_mmax hx hb (by rw [hml]; exact hl.1.symm) hown (hts _ k_7_38) (hts _ k_1_39) (hts _ k_1_3) (hts _ k_1_40) (Nat.le_of_ble_eq_true rfl) (Nat.le_of_ble_eq_true rfl) (Nat.le_of_ble_eq_true rfl) (Nat.le_of_ble_eq_true rfl) (D_184 W_prog_4_method_12_code_64 2 rfl rfl rfl) ?_
    rw [zmax_e g12 (by decide)]
    refine lv_goto (tgt := 73) hx hb (D_167 W_prog_4_method_12_code_64 5 rfl rfl rfl) (by decide) ?_
    exact b_Layout_setXs_73 X hf hZ3 hS3 (lv_sub hl [0, 1, 2, 3, 5] rfl)

abbrev Q_Layout_tell (K : zK) (D : va_G) (ca : Nat → ClassId) (ad : Nat → Int → Nat → Nat) (L : List Nat) (r : Int) (F : zF) (B : zB) (A : Nat → Prop) : Array Value → State → Outcome → State → Prop := va_Ql (S := Unit) (fun p _ => p = lI r) (fun _ => zPo D ca ad lnC K.2 L F B A) A
def f_Layout_tell_12 (K : zK)  (F : zF) (B : zB) : zO := some ((-1), F, B)
set_option maxHeartbeats 4000000 in
set_option maxRecDepth 100000 in
theorem b_Layout_tell_12 {D : va_G} {ca : Nat → ClassId} {ad : Nat → Int → Nat → Nat} {L : List Nat} {aS vS : Nat → Nat} {A : Nat → Prop} {p : Program} {l : Launch} {e : Env} {s : State} {m : MethodId} {args : Array Value} {below : List Frame} {meth : Method} {c : Code} {K : zK} {r : Int} {F9 : zF} {B9 : zB} (X : zX D ca L aS vS A p s m args meth c prog_4_method_13_code 3 (Option.some Jvm.ClassFile.FieldType.long) "StaveHouse$Layout")  {F : zF} {B : zB} {H : Heap} {locs : List Loc} {ls : Array Slot} (hf : f_Layout_tell_12 K  F B = some (r, F9, B9)) (hZ : zH D ca ad lnC K.2 L F B A H) (hS : va_S A s.heap H locs) (hl : lv_has ls 3 []) : W p l e ({ frames := 0, cells := 0, slots := 0, locals := 0 } : Room) s m args below meth c H locs 0 0 (MQ below (Q_Layout_tell K D ca ad L r F9 B9 A) args s 0 0 A) (F0 m 12 ls []) := by
  obtain ⟨hx, hb, hr, hml, hown, hts, hlk, hK, hA, hL, hX⟩ := id X
  replace hf : (some ((-1), F, B)) = some (r, F9, B9) := hf
  refine lv_ldc2 hx hb hown (hts _ k_7_34) (D_20 W_prog_4_method_13_code_0 12 rfl rfl rfl) ?_
  refine W.eq (g2 := F0 m 15 ls [.long (lI (-1))]) rfl ?_
  cases hf
  exact W.lret hx hb hr (fun t ht hW => ⟨⟨_, (), rfl, rfl, by rw [ht]; exact hZ, va_K.moved hW.alike hK⟩, hS.F ht⟩) hS.2.2 (D_173 W_prog_4_method_13_code_0 15 rfl rfl) hlk

def f_Layout_tell (K : zK) (l0 : Int) (l1 : Int) (l2 : Int) (F : zF) (B : zB) : zO := if r32 l1 then (if l1 < 0 then f_Layout_tell_12 K F B else if 0 ≤ l0 ∧ l0 < K.2 2 then if r32 (F 2 l0 0) then (if l1 < (F 2 l0 0) then if r32 l2 then (if l2 = 0 then if 0 ≤ l1 ∧ l1 < 101 then if r32 (B 2 l0 7 l1) then some (B 2 l0 7 l1, F, B) else none else none else (if l2 = 1 then if 0 ≤ (l1 + 1) ∧ (l1 + 1) < 101 then if 0 ≤ l1 ∧ l1 < 101 then if r32 ((B 2 l0 7 (l1 + 1)) - (B 2 l0 7 l1)) then some ((B 2 l0 7 (l1 + 1)) - (B 2 l0 7 l1), F, B) else none else none else none else (if l2 = 2 then if 0 ≤ l1 ∧ l1 < 100 then if r32 (B 2 l0 8 l1) then some (B 2 l0 8 l1, F, B) else none else none else (if l2 = 3 then if 0 ≤ (l1 + 1) ∧ (l1 + 1) < 101 then if 0 ≤ (B 2 l0 7 (l1 + 1)) ∧ (B 2 l0 7 (l1 + 1)) < 101 then if 0 ≤ l1 ∧ l1 < 101 then if 0 ≤ (B 2 l0 7 l1) ∧ (B 2 l0 7 l1) < 101 then if r32 ((B 2 l0 5 (B 2 l0 7 (l1 + 1))) - (B 2 l0 5 (B 2 l0 7 l1))) then some ((B 2 l0 5 (B 2 l0 7 (l1 + 1))) - (B 2 l0 5 (B 2 l0 7 l1)), F, B) else none else none else none else none else none else (if l2 = 4 then if 0 ≤ l1 ∧ l1 < 100 then some (B 2 l0 9 l1, F, B) else none else some ((-1), F, B)))))) else none else f_Layout_tell_12 K F B) else none else none) else none
set_option maxHeartbeats 4000000 in
set_option maxRecDepth 100000 in
theorem c_Layout_tell {l : Launch} {D : va_G} {ca : Nat → ClassId} {ad : Nat → Int → Nat → Nat} {L : List Nat} {aS vS : Nat → Nat} {sz : Nat} {K : zK}  {l0 : Int} {l1 : Int} {l2 : Int} {F F9 : zF} {B B9 : zB} {r : Int} (hf : f_Layout_tell K l0 l1 l2 F B = some (r, F9, B9)) : Met l ({ cls := "StaveHouse$Layout", name := "tell", desc := "(II)J" } : Jvm.MethodName) (Cond.code ({ cls := "StaveHouse$Layout", name := "tell", desc := "(II)J" } : Jvm.MethodName) prog_4_method_13_code 3 (Option.some Jvm.ClassFile.FieldType.long) :: wAll) ({ frames := 0, cells := 0, slots := 0, locals := 0 } : Room) (va_Pc [.ref (ad 2 l0 0), .int (iI l1), .int (iI l2)] (zPre D ca ad lnC K.2 L aS vS F B sz)) (Q_Layout_tell K D ca ad L r F9 B9 (zA L sz)) 0 0 (zA L sz) := by
  refine zMet (Qc := Q_Layout_tell K D ca ad L r F9 B9) (lv := [(0, .ref (ad 2 l0 0)), (1, .int (iI l1)), (2, .int (iI l2))]) (by decide) (Nat.le_of_ble_eq_true rfl) rfl (fun A p e s m below meth c ls X hZ hS hl => ?_)
  obtain ⟨hx, hb, hr, hml, hown, hts, hlk, hK, hA, hL, hX⟩ := id X
  replace hf : (if r32 l1 then (if l1 < 0 then f_Layout_tell_12 K F B else if 0 ≤ l0 ∧ l0 < K.2 2 then if r32 (F 2 l0 0) then (if l1 < (F 2 l0 0) then if r32 l2 then (if l2 = 0 then if 0 ≤ l1 ∧ l1 < 101 then if r32 (B 2 l0 7 l1) then some (B 2 l0 7 l1, F, B) else none else none else (if l2 = 1 then if 0 ≤ (l1 + 1) ∧ (l1 + 1) < 101 then if 0 ≤ l1 ∧ l1 < 101 then if r32 ((B 2 l0 7 (l1 + 1)) - (B 2 l0 7 l1)) then some ((B 2 l0 7 (l1 + 1)) - (B 2 l0 7 l1), F, B) else none else none else none else (if l2 = 2 then if 0 ≤ l1 ∧ l1 < 100 then if r32 (B 2 l0 8 l1) then some (B 2 l0 8 l1, F, B) else none else none else (if l2 = 3 then if 0 ≤ (l1 + 1) ∧ (l1 + 1) < 101 then if 0 ≤ (B 2 l0 7 (l1 + 1)) ∧ (B 2 l0 7 (l1 + 1)) < 101 then if 0 ≤ l1 ∧ l1 < 101 then if 0 ≤ (B 2 l0 7 l1) ∧ (B 2 l0 7 l1) < 101 then if r32 ((B 2 l0 5 (B 2 l0 7 (l1 + 1))) - (B 2 l0 5 (B 2 l0 7 l1))) then some ((B 2 l0 5 (B 2 l0 7 (l1 + 1))) - (B 2 l0 5 (B 2 l0 7 l1)), F, B) else none else none else none else none else none else (if l2 = 4 then if 0 ≤ l1 ∧ l1 < 100 then some (B 2 l0 9 l1, F, B) else none else some ((-1), F, B)))))) else none else f_Layout_tell_12 K F B) else none else none) else none) = some (r, F9, B9) := hf
  refine lv_iload_n hx hb (D_27 W_prog_4_method_13_code_0 0 rfl rfl) rfl (lv_at hl 1 rfl) ?_
  obtain ⟨g1, hf⟩ := gif hf
  refine z0lt (tgt := 12) hx hb g1 (D_155 W_prog_4_method_13_code_0 1 rfl rfl rfl) (by decide) (fun h2 => ?_) (fun h2 => ?_)
  · replace hf := gpos hf h2
    exact b_Layout_tell_12 X hf hZ hS (lv_sub hl [] rfl)
  · replace hf := gneg hf h2
    refine lv_iload_n hx hb (D_27 W_prog_4_method_13_code_0 4 rfl rfl) rfl (lv_at hl 1 rfl) ?_
    refine lv_aload_n hx hb (D_42 W_prog_4_method_13_code_0 5 rfl rfl) rfl (lv_at hl 0 rfl) ?_
    obtain ⟨g3, hf⟩ := gif hf
    refine zget (ci := 2) (C := RX2) (T := TX2) (v := .int (iI (F 2 l0 0))) (k := 0) hx hb hts inW_2 hown hK hZ g3.1 g3.2 rfl (by decide) k_6_215 rfl (D_180 W_prog_4_method_13_code_0 6 rfl rfl rfl) ?_
    obtain ⟨g4, hf⟩ := gif hf
    refine zlt (tgt := 16) hx hb g1 g4 (D_161 W_prog_4_method_13_code_0 9 rfl rfl rfl) (by decide) (fun h5 => ?_) (fun h5 => ?_)
    · replace hf := gpos hf h5
      refine lv_iload_n hx hb (D_28 W_prog_4_method_13_code_0 16 rfl rfl) rfl (lv_at hl 2 rfl) ?_
      obtain ⟨g6, hf⟩ := gif hf
      by_cases h7 : l2 = 0
      · replace hf := gpos hf h7
        refine lv_tableIn (off := 35) (tgt := 52) hx hb d_4_13_17 (by rw [iI_to g6, h7]; decide) (by rw [iI_to g6, h7]; decide) (by rw [iI_to g6, h7]; rfl) (by decide) ?_
        refine lv_aload_n hx hb (D_42 W_prog_4_method_13_code_32 20 rfl rfl) rfl (lv_at hl 0 rfl) ?_
        refine zget (ci := 2) (C := RX2) (T := TX2) (v := .ref (ad 2 l0 (7 + 1))) (k := 7) hx hb hts inW_2 hown hK hZ g3.1 g3.2 rfl (by decide) k_6_224 rfl (D_180 W_prog_4_method_13_code_32 21 rfl rfl rfl) ?_
        refine lv_iload_n hx hb (D_27 W_prog_4_method_13_code_32 24 rfl rfl) rfl (lv_at hl 1 rfl) ?_
        obtain ⟨g8, hf⟩ := gif hf
        refine zald (ci := 2) (k := 7) hx hb hK rfl hZ g3.1 g3.2 rfl (Nat.le_of_ble_eq_true rfl) g8.1 g8.2 (D_46 W_prog_4_method_13_code_32 25 rfl rfl) ?_
        obtain ⟨g9, hf⟩ := gif hf
        refine zi2l hx hb g9 (D_133 W_prog_4_method_13_code_32 26 rfl rfl) ?_
        cases hf
        exact W.lret hx hb hr (fun t ht hW => ⟨⟨_, (), rfl, rfl, by rw [ht]; exact hZ, va_K.moved hW.alike hK⟩, hS.F ht⟩) hS.2.2 (D_173 W_prog_4_method_13_code_32 27 rfl rfl) hlk
      replace hf := gneg hf h7
      by_cases h10 : l2 = 1
      · replace hf := gpos hf h10
        refine lv_tableIn (off := 43) (tgt := 60) hx hb d_4_13_17 (by rw [iI_to g6, h10]; decide) (by rw [iI_to g6, h10]; decide) (by rw [iI_to g6, h10]; rfl) (by decide) ?_
        refine lv_aload_n hx hb (D_42 W_prog_4_method_13_code_32 28 rfl rfl) rfl (lv_at hl 0 rfl) ?_
        refine zget (ci := 2) (C := RX2) (T := TX2) (v := .ref (ad 2 l0 (7 + 1))) (k := 7) hx hb hts inW_2 hown hK hZ g3.1 g3.2 rfl (by decide) k_6_224 rfl (D_180 W_prog_4_method_13_code_32 29 rfl rfl rfl) ?_
        refine lv_iload_n hx hb (D_27 W_prog_4_method_13_code_64 0 rfl rfl) rfl (lv_at hl 1 rfl) ?_
        refine lv_iconst (v := iI 1) hx hb (D_4 W_prog_4_method_13_code_64 1 rfl rfl) rfl ?_
        refine zadd hx hb (D_96 W_prog_4_method_13_code_64 2 rfl rfl) ?_
        obtain ⟨g11, hf⟩ := gif hf
        refine zald (ci := 2) (k := 7) hx hb hK rfl hZ g3.1 g3.2 rfl (Nat.le_of_ble_eq_true rfl) g11.1 g11.2 (D_46 W_prog_4_method_13_code_64 3 rfl rfl) ?_
        refine lv_aload_n hx hb (D_42 W_prog_4_method_13_code_64 4 rfl rfl) rfl (lv_at hl 0 rfl) ?_
        refine zget (ci := 2) (C := RX2) (T := TX2) (v := .ref (ad 2 l0 (7 + 1))) (k := 7) hx hb hts inW_2 hown hK hZ g3.1 g3.2 rfl (by decide) k_6_224 rfl (D_180 W_prog_4_method_13_code_64 5 rfl rfl rfl) ?_
        refine lv_iload_n hx hb (D_27 W_prog_4_method_13_code_64 8 rfl rfl) rfl (lv_at hl 1 rfl) ?_
        obtain ⟨g12, hf⟩ := gif hf
        refine zald (ci := 2) (k := 7) hx hb hK rfl hZ g3.1 g3.2 rfl (Nat.le_of_ble_eq_true rfl) g12.1 g12.2 (D_46 W_prog_4_method_13_code_64 9 rfl rfl) ?_
        refine zsub hx hb (D_100 W_prog_4_method_13_code_64 10 rfl rfl) ?_
        obtain ⟨g13, hf⟩ := gif hf
        refine zi2l hx hb g13 (D_133 W_prog_4_method_13_code_64 11 rfl rfl) ?_
        cases hf
        exact W.lret hx hb hr (fun t ht hW => ⟨⟨_, (), rfl, rfl, by rw [ht]; exact hZ, va_K.moved hW.alike hK⟩, hS.F ht⟩) hS.2.2 (D_173 W_prog_4_method_13_code_64 12 rfl rfl) hlk
      replace hf := gneg hf h10
      by_cases h14 : l2 = 2
      · replace hf := gpos hf h14
        refine lv_tableIn (off := 60) (tgt := 77) hx hb d_4_13_17 (by rw [iI_to g6, h14]; decide) (by rw [iI_to g6, h14]; decide) (by rw [iI_to g6, h14]; rfl) (by decide) ?_
        refine lv_aload_n hx hb (D_42 W_prog_4_method_13_code_64 13 rfl rfl) rfl (lv_at hl 0 rfl) ?_
        refine zget (ci := 2) (C := RX2) (T := TX2) (v := .ref (ad 2 l0 (8 + 1))) (k := 8) hx hb hts inW_2 hown hK hZ g3.1 g3.2 rfl (by decide) k_6_225 rfl (D_180 W_prog_4_method_13_code_64 14 rfl rfl rfl) ?_
        refine lv_iload_n hx hb (D_27 W_prog_4_method_13_code_64 17 rfl rfl) rfl (lv_at hl 1 rfl) ?_
        obtain ⟨g15, hf⟩ := gif hf
        refine zald (ci := 2) (k := 8) hx hb hK rfl hZ g3.1 g3.2 rfl (Nat.le_of_ble_eq_true rfl) g15.1 g15.2 (D_46 W_prog_4_method_13_code_64 18 rfl rfl) ?_
        obtain ⟨g16, hf⟩ := gif hf
        refine zi2l hx hb g16 (D_133 W_prog_4_method_13_code_64 19 rfl rfl) ?_
        cases hf
        exact W.lret hx hb hr (fun t ht hW => ⟨⟨_, (), rfl, rfl, by rw [ht]; exact hZ, va_K.moved hW.alike hK⟩, hS.F ht⟩) hS.2.2 (D_173 W_prog_4_method_13_code_64 20 rfl rfl) hlk
      replace hf := gneg hf h14
      by_cases h17 : l2 = 3
      · replace hf := gpos hf h17
        refine lv_tableIn (off := 68) (tgt := 85) hx hb d_4_13_17 (by rw [iI_to g6, h17]; decide) (by rw [iI_to g6, h17]; decide) (by rw [iI_to g6, h17]; rfl) (by decide) ?_
        refine lv_aload_n hx hb (D_42 W_prog_4_method_13_code_64 21 rfl rfl) rfl (lv_at hl 0 rfl) ?_
        refine zget (ci := 2) (C := RX2) (T := TX2) (v := .ref (ad 2 l0 (5 + 1))) (k := 5) hx hb hts inW_2 hown hK hZ g3.1 g3.2 rfl (by decide) k_6_222 rfl (D_180 W_prog_4_method_13_code_64 22 rfl rfl rfl) ?_
        refine lv_aload_n hx hb (D_42 W_prog_4_method_13_code_64 25 rfl rfl) rfl (lv_at hl 0 rfl) ?_
        refine zget (ci := 2) (C := RX2) (T := TX2) (v := .ref (ad 2 l0 (7 + 1))) (k := 7) hx hb hts inW_2 hown hK hZ g3.1 g3.2 rfl (by decide) k_6_224 rfl (D_180 W_prog_4_method_13_code_64 26 rfl rfl rfl) ?_
        refine lv_iload_n hx hb (D_27 W_prog_4_method_13_code_64 29 rfl rfl) rfl (lv_at hl 1 rfl) ?_
        refine lv_iconst (v := iI 1) hx hb (D_4 W_prog_4_method_13_code_64 30 rfl rfl) rfl ?_
        refine zadd hx hb (D_96 W_prog_4_method_13_code_64 31 rfl rfl) ?_
        obtain ⟨g18, hf⟩ := gif hf
        refine zald (ci := 2) (k := 7) hx hb hK rfl hZ g3.1 g3.2 rfl (Nat.le_of_ble_eq_true rfl) g18.1 g18.2 (D_46 W_prog_4_method_13_code_96 0 rfl rfl) ?_
        obtain ⟨g19, hf⟩ := gif hf
        refine zald (ci := 2) (k := 5) hx hb hK rfl hZ g3.1 g3.2 rfl (Nat.le_of_ble_eq_true rfl) g19.1 g19.2 (D_46 W_prog_4_method_13_code_96 1 rfl rfl) ?_
        refine lv_aload_n hx hb (D_42 W_prog_4_method_13_code_96 2 rfl rfl) rfl (lv_at hl 0 rfl) ?_
        refine zget (ci := 2) (C := RX2) (T := TX2) (v := .ref (ad 2 l0 (5 + 1))) (k := 5) hx hb hts inW_2 hown hK hZ g3.1 g3.2 rfl (by decide) k_6_222 rfl (D_180 W_prog_4_method_13_code_96 3 rfl rfl rfl) ?_
        refine lv_aload_n hx hb (D_42 W_prog_4_method_13_code_96 6 rfl rfl) rfl (lv_at hl 0 rfl) ?_
        refine zget (ci := 2) (C := RX2) (T := TX2) (v := .ref (ad 2 l0 (7 + 1))) (k := 7) hx hb hts inW_2 hown hK hZ g3.1 g3.2 rfl (by decide) k_6_224 rfl (D_180 W_prog_4_method_13_code_96 7 rfl rfl rfl) ?_
        refine lv_iload_n hx hb (D_27 W_prog_4_method_13_code_96 10 rfl rfl) rfl (lv_at hl 1 rfl) ?_
        obtain ⟨g20, hf⟩ := gif hf
        refine zald (ci := 2) (k := 7) hx hb hK rfl hZ g3.1 g3.2 rfl (Nat.le_of_ble_eq_true rfl) g20.1 g20.2 (D_46 W_prog_4_method_13_code_96 11 rfl rfl) ?_
        obtain ⟨g21, hf⟩ := gif hf
        refine zald (ci := 2) (k := 5) hx hb hK rfl hZ g3.1 g3.2 rfl (Nat.le_of_ble_eq_true rfl) g21.1 g21.2 (D_46 W_prog_4_method_13_code_96 12 rfl rfl) ?_
        refine zsub hx hb (D_100 W_prog_4_method_13_code_96 13 rfl rfl) ?_
        obtain ⟨g22, hf⟩ := gif hf
        refine zi2l hx hb g22 (D_133 W_prog_4_method_13_code_96 14 rfl rfl) ?_
        cases hf
        exact W.lret hx hb hr (fun t ht hW => ⟨⟨_, (), rfl, rfl, by rw [ht]; exact hZ, va_K.moved hW.alike hK⟩, hS.F ht⟩) hS.2.2 (D_173 W_prog_4_method_13_code_96 15 rfl rfl) hlk
      replace hf := gneg hf h17
      by_cases h23 : l2 = 4
      · replace hf := gpos hf h23
        refine lv_tableIn (off := 95) (tgt := 112) hx hb d_4_13_17 (by rw [iI_to g6, h23]; decide) (by rw [iI_to g6, h23]; decide) (by rw [iI_to g6, h23]; rfl) (by decide) ?_
        refine lv_aload_n hx hb (D_42 W_prog_4_method_13_code_96 16 rfl rfl) rfl (lv_at hl 0 rfl) ?_
        refine zget (ci := 2) (C := RX2) (T := TX2) (v := .ref (ad 2 l0 (9 + 1))) (k := 9) hx hb hts inW_2 hown hK hZ g3.1 g3.2 rfl (by decide) k_6_226 rfl (D_180 W_prog_4_method_13_code_96 17 rfl rfl rfl) ?_
        refine lv_iload_n hx hb (D_27 W_prog_4_method_13_code_96 20 rfl rfl) rfl (lv_at hl 1 rfl) ?_
        obtain ⟨g24, hf⟩ := gif hf
        refine zlald (ci := 2) (k := 9) hx hb hK rfl hZ g3.1 g3.2 rfl (Nat.le_of_ble_eq_true rfl) g24.1 g24.2 (D_47 W_prog_4_method_13_code_96 21 rfl rfl) ?_
        cases hf
        exact W.lret hx hb hr (fun t ht hW => ⟨⟨_, (), rfl, rfl, by rw [ht]; exact hZ, va_K.moved hW.alike hK⟩, hS.F ht⟩) hS.2.2 (D_173 W_prog_4_method_13_code_96 22 rfl rfl) hlk
      replace hf := gneg hf h23
      refine lv_tableOut (tgt := 119) hx hb d_4_13_17 (by rw [iI_to g6]; omega) (by decide) ?_
      refine lv_ldc2 hx hb hown (hts _ k_7_34) (D_20 W_prog_4_method_13_code_96 23 rfl rfl rfl) ?_
      refine W.eq (g2 := F0 m 122 ls [.long (lI (-1))]) rfl ?_
      cases hf
      exact W.lret hx hb hr (fun t ht hW => ⟨⟨_, (), rfl, rfl, by rw [ht]; exact hZ, va_K.moved hW.alike hK⟩, hS.F ht⟩) hS.2.2 (D_173 W_prog_4_method_13_code_96 26 rfl rfl) hlk
    · replace hf := gneg hf h5
      exact b_Layout_tell_12 X hf hZ hS (lv_sub hl [] rfl)

