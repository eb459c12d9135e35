theorem k_4_190 : (Jvm.Cond.instanceMethod ({ cls := "StaveHouse$Piece", name := "barLength", desc := "()J" } : Jvm.MethodName)) ∈ wAll := wA_4 (j := 190) rfl rfl
theorem k_4_191 : (Jvm.Cond.selects "StaveHouse$Piece" ({ cls := "StaveHouse$Piece", name := "barLength", desc := "()J" } : Jvm.MethodName) ({ cls := "StaveHouse$Piece", name := "barLength", desc := "()J" } : Jvm.MethodName)) ∈ wAll := wA_4 (j := 191) rfl rfl
theorem k_1_15 : (Jvm.Cond.initialized "StaveHouse$Piece") ∈ wAll := wA_1 (j := 15) rfl rfl
theorem k_4_192 : (Jvm.Cond.code ({ cls := "StaveHouse$Piece", name := "barLength", desc := "()J" } : Jvm.MethodName) prog_8_method_5_code (1 : Nat) (Option.some Jvm.ClassFile.FieldType.long)) ∈ wAll := wA_4 (j := 192) rfl rfl
theorem k_5_174 : (Jvm.Cond.methodLink "StaveHouse$Piece" (86 : Nat) ({ cls := "StaveHouse$Piece", name := "barLength", desc := "()J" } : Jvm.MethodName)) ∈ wAll := wA_5 (j := 174) rfl rfl
theorem k_5_175 : (Jvm.Cond.methodLink "StaveHouse$Piece" (90 : Nat) ({ cls := "java/lang/Math", name := "max", desc := "(JJ)J" } : Jvm.MethodName)) ∈ wAll := wA_5 (j := 175) rfl rfl
theorem k_5_176 : (Jvm.Cond.static ({ cls := "java/lang/Math", name := "max", desc := "(JJ)J" } : Jvm.MethodName)) ∈ wAll := wA_5 (j := 176) rfl rfl
theorem k_5_177 : (Jvm.Cond.code ({ cls := "java/lang/Math", name := "max", desc := "(JJ)J" } : Jvm.MethodName) prog_20_method_66_code (4 : Nat) (Option.some Jvm.ClassFile.FieldType.long)) ∈ wAll := wA_5 (j := 177) rfl rfl
theorem k_4_141 : (Jvm.Cond.fieldLink "StaveHouse$Piece" (80 : Nat) "StaveHouse$Part" "endPlace" "J") ∈ wAll := wA_4 (j := 141) rfl rfl
theorem k_4_126 : (Jvm.Cond.fieldLink "StaveHouse$Piece" (83 : Nat) "StaveHouse$Part" "token" "I") ∈ wAll := wA_4 (j := 126) rfl rfl
theorem k_2_130 : (Jvm.Cond.fieldLink "StaveHouse" (27 : Nat) "StaveHouse" "pieces" "[LStaveHouse$Piece;") ∈ wAll := wA_2 (j := 130) rfl rfl
theorem k_5_205 : (Jvm.Cond.fieldLink "StaveHouse$Study" (20 : Nat) "StaveHouse$Study" "eventsAt" "[[I") ∈ wAll := wA_5 (j := 205) rfl rfl
theorem k_6_8 : (Jvm.Cond.constantLong "StaveHouse$Study" (96 : Nat) (-1 : Int64)) ∈ wAll := wA_6 (j := 8) rfl rfl
theorem k_2_192 : (Jvm.Cond.fieldLink "StaveHouse$Study" (58 : Nat) "StaveHouse$Piece" "partCount" "I") ∈ wAll := wA_2 (j := 192) rfl rfl
theorem k_2_187 : (Jvm.Cond.fieldLink "StaveHouse$Study" (77 : Nat) "StaveHouse$Piece" "parts" "[LStaveHouse$Part;") ∈ wAll := wA_2 (j := 187) rfl rfl
theorem k_4_137 : (Jvm.Cond.fieldLink "StaveHouse$Study" (81 : Nat) "StaveHouse$Part" "eventCount" "I") ∈ wAll := wA_4 (j := 137) rfl rfl
theorem k_4_132 : (Jvm.Cond.fieldLink "StaveHouse$Study" (86 : Nat) "StaveHouse$Part" "events" "[LStaveHouse$Event;") ∈ wAll := wA_4 (j := 132) rfl rfl
theorem k_2_20 : (Jvm.Cond.fieldLink "StaveHouse$Study" (90 : Nat) "StaveHouse$Event" "place" "J") ∈ wAll := wA_2 (j := 20) rfl rfl
theorem k_5_207 : (Jvm.Cond.fieldLink "StaveHouse$Study" (27 : Nat) "StaveHouse$Study" "tones" "[I") ∈ wAll := wA_5 (j := 207) rfl rfl
theorem k_5_209 : (Jvm.Cond.fieldLink "StaveHouse$Study" (33 : Nat) "StaveHouse$Study" "oldTones" "[I") ∈ wAll := wA_5 (j := 209) rfl rfl
theorem k_5_210 : (Jvm.Cond.fieldLink "StaveHouse$Study" (36 : Nat) "StaveHouse$Study" "begins" "[Z") ∈ wAll := wA_5 (j := 210) rfl rfl
theorem k_5_206 : (Jvm.Cond.fieldLink "StaveHouse$Study" (23 : Nat) "StaveHouse$Study" "steps" "[I") ∈ wAll := wA_5 (j := 206) rfl rfl
theorem k_6_38 : (Jvm.Cond.methodLink "StaveHouse$Study" (130 : Nat) ({ cls := "java/lang/Math", name := "floorMod", desc := "(II)I" } : Jvm.MethodName)) ∈ wAll := wA_6 (j := 38) rfl rfl
theorem k_6_39 : (Jvm.Cond.methodLink "StaveHouse$Study" (127 : Nat) ({ cls := "java/lang/Math", name := "abs", desc := "(I)I" } : Jvm.MethodName)) ∈ wAll := wA_6 (j := 39) rfl rfl
theorem k_4_229 : (Jvm.Cond.static ({ cls := "java/lang/Math", name := "abs", desc := "(I)I" } : Jvm.MethodName)) ∈ wAll := wA_4 (j := 229) rfl rfl
theorem k_4_230 : (Jvm.Cond.code ({ cls := "java/lang/Math", name := "abs", desc := "(I)I" } : Jvm.MethodName) prog_20_method_59_code (1 : Nat) (Option.some Jvm.ClassFile.FieldType.int)) ∈ wAll := wA_4 (j := 230) rfl rfl
theorem k_5_201 : (Jvm.Cond.fieldLink "StaveHouse$Study" (47 : Nat) "StaveHouse$Study" "faults" "I") ∈ wAll := wA_5 (j := 201) rfl rfl
theorem k_5_203 : (Jvm.Cond.fieldLink "StaveHouse$Study" (17 : Nat) "StaveHouse$Study" "faultRows" "[[I") ∈ wAll := wA_5 (j := 203) rfl rfl
theorem k_5_208 : (Jvm.Cond.fieldLink "StaveHouse$Study" (30 : Nat) "StaveHouse$Study" "oldSteps" "[I") ∈ wAll := wA_5 (j := 208) rfl rfl
theorem k_6_48 : (Jvm.Cond.fieldLink "StaveHouse$Study" (133 : Nat) "StaveHouse$Study" "LEAST_TONES" "[I") ∈ wAll := wA_6 (j := 48) rfl rfl
theorem k_6_50 : (Jvm.Cond.fieldLink "StaveHouse$Study" (136 : Nat) "StaveHouse$Study" "MOST_TONES" "[I") ∈ wAll := wA_6 (j := 50) rfl rfl
theorem k_6_63 : (Jvm.Cond.fieldLink "StaveHouse$Performance" (36 : Nat) "StaveHouse$Performance" "count" "I") ∈ wAll := wA_6 (j := 63) rfl rfl
theorem k_6_65 : (Jvm.Cond.fieldLink "StaveHouse$Performance" (40 : Nat) "StaveHouse$Performance" "tooMany" "Z") ∈ wAll := wA_6 (j := 65) rfl rfl
theorem k_4_136 : (Jvm.Cond.fieldLink "StaveHouse$Performance" (56 : Nat) "StaveHouse$Part" "eventCount" "I") ∈ wAll := wA_4 (j := 136) rfl rfl
theorem k_4_131 : (Jvm.Cond.fieldLink "StaveHouse$Performance" (73 : Nat) "StaveHouse$Part" "events" "[LStaveHouse$Event;") ∈ wAll := wA_4 (j := 131) rfl rfl
theorem k_6_119 : (Jvm.Cond.methodLink "StaveHouse$Performance" (77 : Nat) ({ cls := "StaveHouse$Event", name := "has", desc := "(I)Z" } : Jvm.MethodName)) ∈ wAll := wA_6 (j := 119) rfl rfl
theorem k_6_129 : (Jvm.Cond.constantLong "StaveHouse$Performance" (92 : Nat) (384 : Int64)) ∈ wAll := wA_6 (j := 129) rfl rfl
theorem k_6_130 : (Jvm.Cond.constantLong "StaveHouse$Performance" (94 : Nat) (812851200 : Int64)) ∈ wAll := wA_6 (j := 130) rfl rfl
theorem k_6_76 : (Jvm.Cond.fieldLink "StaveHouse$Performance" (23 : Nat) "StaveHouse$Performance" "sounds" "[[I") ∈ wAll := wA_6 (j := 76) rfl rfl
theorem k_2_42 : (Jvm.Cond.fieldLink "StaveHouse$Performance" (96 : Nat) "StaveHouse$Event" "loud" "I") ∈ wAll := wA_2 (j := 42) rfl rfl
theorem k_6_134 : (Jvm.Cond.methodLink "StaveHouse$Performance" (99 : Nat) ({ cls := "java/lang/Math", name := "min", desc := "(II)I" } : Jvm.MethodName)) ∈ wAll := wA_6 (j := 134) rfl rfl
theorem k_2_59 : (Jvm.Cond.fieldLink "StaveHouse$Performance" (135 : Nat) "StaveHouse$Event" "steps" "[I") ∈ wAll := wA_2 (j := 59) rfl rfl
theorem k_2_64 : (Jvm.Cond.fieldLink "StaveHouse$Performance" (138 : Nat) "StaveHouse$Event" "alterations" "[I") ∈ wAll := wA_2 (j := 64) rfl rfl
theorem k_6_149 : (Jvm.Cond.methodLink "StaveHouse$Performance" (141 : Nat) ({ cls := "StaveHouse$Event", name := "hasPitch", desc := "(II)Z" } : Jvm.MethodName)) ∈ wAll := wA_6 (j := 149) rfl rfl
theorem k_2_56 : (Jvm.Cond.fieldLink "StaveHouse$Performance" (147 : Nat) "StaveHouse$Event" "slurred" "Z") ∈ wAll := wA_2 (j := 56) rfl rfl
theorem k_6_153 : (Jvm.Cond.methodLink "StaveHouse$Performance" (144 : Nat) ({ cls := "java/lang/Math", name := "max", desc := "(II)I" } : Jvm.MethodName)) ∈ wAll := wA_6 (j := 153) rfl rfl
theorem k_6_79 : (Jvm.Cond.fieldLink "StaveHouse$Performance" (33 : Nat) "StaveHouse$Performance" "keyTicks" "[J") ∈ wAll := wA_6 (j := 79) rfl rfl
theorem k_6_158 : (Jvm.Cond.constantLong "StaveHouse$Performance" (190 : Nat) (-1 : Int64)) ∈ wAll := wA_6 (j := 158) rfl rfl
theorem k_6_159 : (Jvm.Cond.methodLink "StaveHouse$Performance" (192 : Nat) ({ cls := "java/lang/Math", name := "floorMod", desc := "(II)I" } : Jvm.MethodName)) ∈ wAll := wA_6 (j := 159) rfl rfl
theorem k_6_162 : (Jvm.Cond.fieldLink "StaveHouse$Performance" (198 : Nat) "StaveHouse$Performance" "MINOR_WEIGHTS" "[I") ∈ wAll := wA_6 (j := 162) rfl rfl
theorem k_6_160 : (Jvm.Cond.fieldLink "StaveHouse$Performance" (195 : Nat) "StaveHouse$Performance" "MAJOR_WEIGHTS" "[I") ∈ wAll := wA_6 (j := 160) rfl rfl
theorem k_5_182 : (Jvm.Cond.methodLink "StaveHouse" (97 : Nat) ({ cls := "StaveHouse", name := "pieceAt", desc := "(I)LStaveHouse$Piece;" } : Jvm.MethodName)) ∈ wAll := wA_5 (j := 182) rfl rfl
theorem k_5_184 : (Jvm.Cond.instanceMethod ({ cls := "StaveHouse", name := "pieceAt", desc := "(I)LStaveHouse$Piece;" } : Jvm.MethodName)) ∈ wAll := wA_5 (j := 184) rfl rfl
theorem ks_65 : (Jvm.Cond.selects "StaveHouse" ({ cls := "StaveHouse", name := "pieceAt", desc := "(I)LStaveHouse$Piece;" } : Jvm.MethodName) ({ cls := "StaveHouse", name := "pieceAt", desc := "(I)LStaveHouse$Piece;" } : Jvm.MethodName)) ∈ wAll := wA_s (j := 65) rfl rfl
theorem k_5_185 : (Jvm.Cond.code ({ cls := "StaveHouse", name := "pieceAt", desc := "(I)LStaveHouse$Piece;" } : Jvm.MethodName) prog_1_method_6_code (2 : Nat) (Option.some (Jvm.ClassFile.FieldType.object "StaveHouse$Piece"))) ∈ wAll := wA_5 (j := 185) rfl rfl
theorem k_2_194 : (Jvm.Cond.fieldLink "StaveHouse" (75 : Nat) "StaveHouse$Piece" "partCount" "I") ∈ wAll := wA_2 (j := 194) rfl rfl
theorem k_2_189 : (Jvm.Cond.fieldLink "StaveHouse" (78 : Nat) "StaveHouse$Piece" "parts" "[LStaveHouse$Part;") ∈ wAll := wA_2 (j := 189) rfl rfl
theorem k_6_168 : (Jvm.Cond.methodLink "StaveHouse" (101 : Nat) ({ cls := "StaveHouse", name := "partAt", desc := "(II)LStaveHouse$Part;" } : Jvm.MethodName)) ∈ wAll := wA_6 (j := 168) rfl rfl
theorem k_6_170 : (Jvm.Cond.instanceMethod ({ cls := "StaveHouse", name := "partAt", desc := "(II)LStaveHouse$Part;" } : Jvm.MethodName)) ∈ wAll := wA_6 (j := 170) rfl rfl
theorem ks_77 : (Jvm.Cond.selects "StaveHouse" ({ cls := "StaveHouse", name := "partAt", desc := "(II)LStaveHouse$Part;" } : Jvm.MethodName) ({ cls := "StaveHouse", name := "partAt", desc := "(II)LStaveHouse$Part;" } : Jvm.MethodName)) ∈ wAll := wA_s (j := 77) rfl rfl
theorem k_6_171 : (Jvm.Cond.code ({ cls := "StaveHouse", name := "partAt", desc := "(II)LStaveHouse$Part;" } : Jvm.MethodName) prog_1_method_7_code (4 : Nat) (Option.some (Jvm.ClassFile.FieldType.object "StaveHouse$Part"))) ∈ wAll := wA_6 (j := 171) rfl rfl
theorem k_4_117 : (Jvm.Cond.fieldLink "StaveHouse" (183 : Nat) "StaveHouse$Part" "word" "J") ∈ wAll := wA_4 (j := 117) rfl rfl
theorem k_4_138 : (Jvm.Cond.fieldLink "StaveHouse" (105 : Nat) "StaveHouse$Part" "eventCount" "I") ∈ wAll := wA_4 (j := 138) rfl rfl
theorem k_4_133 : (Jvm.Cond.fieldLink "StaveHouse" (108 : Nat) "StaveHouse$Part" "events" "[LStaveHouse$Event;") ∈ wAll := wA_4 (j := 133) rfl rfl
theorem k_6_188 : (Jvm.Cond.constantLong "StaveHouse" (335 : Nat) (812851200 : Int64)) ∈ wAll := wA_6 (j := 188) rfl rfl
theorem k_6_189 : (Jvm.Cond.methodLink "StaveHouse" (337 : Nat) ({ cls := "StaveHouse", name := "gcd", desc := "(JJ)J" } : Jvm.MethodName)) ∈ wAll := wA_6 (j := 189) rfl rfl
theorem k_6_190 : (Jvm.Cond.static ({ cls := "StaveHouse", name := "gcd", desc := "(JJ)J" } : Jvm.MethodName)) ∈ wAll := wA_6 (j := 190) rfl rfl
theorem k_6_191 : (Jvm.Cond.code ({ cls := "StaveHouse", name := "gcd", desc := "(JJ)J" } : Jvm.MethodName) prog_1_method_34_code (11 : Nat) (Option.some Jvm.ClassFile.FieldType.long)) ∈ wAll := wA_6 (j := 191) rfl rfl
theorem k_6_221 : (Jvm.Cond.fieldLink "StaveHouse$Layout" (76 : Nat) "StaveHouse$Layout" "columns" "I") ∈ wAll := wA_6 (j := 221) rfl rfl
theorem k_6_222 : (Jvm.Cond.fieldLink "StaveHouse$Layout" (22 : Nat) "StaveHouse$Layout" "barFirsts" "[I") ∈ wAll := wA_6 (j := 222) rfl rfl
theorem k_7_34 : (Jvm.Cond.constantLong "StaveHouse$Layout" (118 : Nat) (-1 : Int64)) ∈ wAll := wA_7 (j := 34) rfl rfl
theorem k_4_149 : (Jvm.Cond.fieldLink "StaveHouse$Layout" (120 : Nat) "StaveHouse$Part" "noteCount" "I") ∈ wAll := wA_4 (j := 149) rfl rfl
theorem k_4_143 : (Jvm.Cond.fieldLink "StaveHouse$Layout" (111 : Nat) "StaveHouse$Part" "notes" "[[I") ∈ wAll := wA_4 (j := 143) rfl rfl
theorem k_6_218 : (Jvm.Cond.fieldLink "StaveHouse$Layout" (11 : Nat) "StaveHouse$Layout" "columnPlaces" "[J") ∈ wAll := wA_6 (j := 218) rfl rfl
theorem k_7_44 : (Jvm.Cond.constantLong "StaveHouse$Layout" (123 : Nat) (6350400 : Int64)) ∈ wAll := wA_7 (j := 44) rfl rfl
theorem k_7_45 : (Jvm.Cond.constantLong "StaveHouse$Layout" (125 : Nat) (2 : Int64)) ∈ wAll := wA_7 (j := 45) rfl rfl
theorem k_6_219 : (Jvm.Cond.fieldLink "StaveHouse$Layout" (15 : Nat) "StaveHouse$Layout" "columnWidths" "[I") ∈ wAll := wA_6 (j := 219) rfl rfl
theorem k_2_196 : (Jvm.Cond.fieldLink "StaveHouse$Layout" (127 : Nat) "StaveHouse$Piece" "fifths" "I") ∈ wAll := wA_2 (j := 196) rfl rfl
theorem k_7_53 : (Jvm.Cond.methodLink "StaveHouse$Layout" (130 : Nat) ({ cls := "java/lang/Math", name := "abs", desc := "(I)I" } : Jvm.MethodName)) ∈ wAll := wA_7 (j := 53) rfl rfl
theorem k_7_58 : (Jvm.Cond.constantLong "StaveHouse$Layout" (144 : Nat) (4 : Int64)) ∈ wAll := wA_7 (j := 58) rfl rfl
theorem k_7_50 : (Jvm.Cond.methodLink "StaveHouse$Layout" (134 : Nat) ({ cls := "StaveHouse$Layout", name := "lead", desc := "(LStaveHouse$Piece;I)I" } : Jvm.MethodName)) ∈ wAll := wA_7 (j := 50) rfl rfl
theorem k_7_51 : (Jvm.Cond.static ({ cls := "StaveHouse$Layout", name := "lead", desc := "(LStaveHouse$Piece;I)I" } : Jvm.MethodName)) ∈ wAll := wA_7 (j := 51) rfl rfl
theorem k_1_21 : (Jvm.Cond.initialized "StaveHouse$Layout") ∈ wAll := wA_1 (j := 21) rfl rfl
theorem k_7_52 : (Jvm.Cond.code ({ cls := "StaveHouse$Layout", name := "lead", desc := "(LStaveHouse$Piece;I)I" } : Jvm.MethodName) prog_4_method_8_code (2 : Nat) (Option.some Jvm.ClassFile.FieldType.int)) ∈ wAll := wA_7 (j := 52) rfl rfl
theorem k_6_223 : (Jvm.Cond.fieldLink "StaveHouse$Layout" (25 : Nat) "StaveHouse$Layout" "barWidths" "[I") ∈ wAll := wA_6 (j := 223) rfl rfl
theorem k_6_224 : (Jvm.Cond.fieldLink "StaveHouse$Layout" (28 : Nat) "StaveHouse$Layout" "lineFirsts" "[I") ∈ wAll := wA_6 (j := 224) rfl rfl
theorem k_7_38 : (Jvm.Cond.methodLink "StaveHouse$Layout" (115 : Nat) ({ cls := "java/lang/Math", name := "max", desc := "(II)I" } : Jvm.MethodName)) ∈ wAll := wA_7 (j := 38) rfl rfl
theorem k_6_215 : (Jvm.Cond.fieldLink "StaveHouse$Layout" (66 : Nat) "StaveHouse$Layout" "lineCount" "I") ∈ wAll := wA_6 (j := 215) rfl rfl
theorem k_6_225 : (Jvm.Cond.fieldLink "StaveHouse$Layout" (31 : Nat) "StaveHouse$Layout" "lineWidths" "[I") ∈ wAll := wA_6 (j := 225) rfl rfl
theorem k_6_220 : (Jvm.Cond.fieldLink "StaveHouse$Layout" (19 : Nat) "StaveHouse$Layout" "columnXs" "[I") ∈ wAll := wA_6 (j := 220) rfl rfl
theorem k_6_226 : (Jvm.Cond.fieldLink "StaveHouse$Layout" (34 : Nat) "StaveHouse$Layout" "linePrices" "[J") ∈ wAll := wA_6 (j := 226) rfl rfl
theorem k_6_83 : (Jvm.Cond.lays "StaveHouse$Performance" "StaveHouse$Performance" "count" "I") ∈ wAll := wA_6 (j := 83) rfl rfl
theorem k_6_85 : (Jvm.Cond.lays "StaveHouse$Performance" "StaveHouse$Performance" "tooMany" "Z") ∈ wAll := wA_6 (j := 85) rfl rfl
theorem k_6_87 : (Jvm.Cond.lays "StaveHouse$Performance" "StaveHouse$Performance" "made" "I") ∈ wAll := wA_6 (j := 87) rfl rfl
theorem k_6_89 : (Jvm.Cond.lays "StaveHouse$Performance" "StaveHouse$Performance" "latest" "I") ∈ wAll := wA_6 (j := 89) rfl rfl
theorem k_6_91 : (Jvm.Cond.laysFinal "StaveHouse$Performance" "StaveHouse$Performance" "heardRow" "[I") ∈ wAll := wA_6 (j := 91) rfl rfl
theorem k_6_93 : (Jvm.Cond.laysFinal "StaveHouse$Performance" "StaveHouse$Performance" "codeRow" "[I") ∈ wAll := wA_6 (j := 93) rfl rfl
theorem k_6_95 : (Jvm.Cond.laysFinal "StaveHouse$Performance" "StaveHouse$Performance" "mix" "[I") ∈ wAll := wA_6 (j := 95) rfl rfl
theorem k_6_97 : (Jvm.Cond.laysFinal "StaveHouse$Performance" "StaveHouse$Performance" "sounds" "[[I") ∈ wAll := wA_6 (j := 97) rfl rfl
theorem k_6_99 : (Jvm.Cond.lays "StaveHouse$Performance" "StaveHouse$Performance" "strokes" "[J") ∈ wAll := wA_6 (j := 99) rfl rfl
theorem k_6_101 : (Jvm.Cond.lays "StaveHouse$Performance" "StaveHouse$Performance" "otherStrokes" "[J") ∈ wAll := wA_6 (j := 101) rfl rfl
theorem k_6_103 : (Jvm.Cond.laysFinal "StaveHouse$Performance" "StaveHouse$Performance" "keyTicks" "[J") ∈ wAll := wA_6 (j := 103) rfl rfl
theorem k_6_105 : (Jvm.Cond.lays "StaveHouse$Performance" "StaveHouse$Performance" "heard" "I") ∈ wAll := wA_6 (j := 105) rfl rfl
theorem k_6_107 : (Jvm.Cond.lays "StaveHouse$Performance" "StaveHouse$Performance" "predicted" "I") ∈ wAll := wA_6 (j := 107) rfl rfl
theorem k_6_109 : (Jvm.Cond.lays "StaveHouse$Performance" "StaveHouse$Performance" "index" "I") ∈ wAll := wA_6 (j := 109) rfl rfl
theorem k_5_212 : (Jvm.Cond.lays "StaveHouse$Study" "StaveHouse$Study" "moments" "I") ∈ wAll := wA_5 (j := 212) rfl rfl
theorem k_5_214 : (Jvm.Cond.laysFinal "StaveHouse$Study" "StaveHouse$Study" "places" "[J") ∈ wAll := wA_5 (j := 214) rfl rfl
theorem k_5_216 : (Jvm.Cond.lays "StaveHouse$Study" "StaveHouse$Study" "faults" "I") ∈ wAll := wA_5 (j := 216) rfl rfl
theorem k_5_218 : (Jvm.Cond.laysFinal "StaveHouse$Study" "StaveHouse$Study" "faultRows" "[[I") ∈ wAll := wA_5 (j := 218) rfl rfl
theorem k_5_220 : (Jvm.Cond.laysFinal "StaveHouse$Study" "StaveHouse$Study" "eventsAt" "[[I") ∈ wAll := wA_5 (j := 220) rfl rfl
theorem k_5_222 : (Jvm.Cond.laysFinal "StaveHouse$Study" "StaveHouse$Study" "steps" "[I") ∈ wAll := wA_5 (j := 222) rfl rfl
theorem k_5_224 : (Jvm.Cond.laysFinal "StaveHouse$Study" "StaveHouse$Study" "tones" "[I") ∈ wAll := wA_5 (j := 224) rfl rfl
theorem k_5_226 : (Jvm.Cond.laysFinal "StaveHouse$Study" "StaveHouse$Study" "oldSteps" "[I") ∈ wAll := wA_5 (j := 226) rfl rfl
theorem k_5_228 : (Jvm.Cond.laysFinal "StaveHouse$Study" "StaveHouse$Study" "oldTones" "[I") ∈ wAll := wA_5 (j := 228) rfl rfl
theorem k_5_230 : (Jvm.Cond.laysFinal "StaveHouse$Study" "StaveHouse$Study" "begins" "[Z") ∈ wAll := wA_5 (j := 230) rfl rfl
theorem k_5_232 : (Jvm.Cond.laysFinal "StaveHouse$Study" "StaveHouse$Study" "letters" "[I") ∈ wAll := wA_5 (j := 232) rfl rfl
theorem W_prog_2_method_2_code_0 : chW prog_2_method_2_code 0 [42, 3, 181, 0, 21, 42, 3, 181, 0, 25, 177] := chW_of (by decide +kernel)
theorem d_2_2_0 : decode prog_2_method_2_code 0 = .ok (.aload_n 0, 1) := D_42 W_prog_2_method_2_code_0 0 rfl rfl
theorem d_2_2_1 : decode prog_2_method_2_code 1 = .ok (.iconst 0, 1) := D_3 W_prog_2_method_2_code_0 1 rfl rfl
theorem d_2_2_2 : decode prog_2_method_2_code 2 = .ok (.putfield 21, 3) := D_181 W_prog_2_method_2_code_0 2 rfl rfl rfl
theorem d_2_2_5 : decode prog_2_method_2_code 5 = .ok (.aload_n 0, 1) := D_42 W_prog_2_method_2_code_0 5 rfl rfl
theorem d_2_2_6 : decode prog_2_method_2_code 6 = .ok (.iconst 0, 1) := D_3 W_prog_2_method_2_code_0 6 rfl rfl
theorem d_2_2_7 : decode prog_2_method_2_code 7 = .ok (.putfield 25, 3) := D_181 W_prog_2_method_2_code_0 7 rfl rfl rfl
theorem d_2_2_10 : decode prog_2_method_2_code 10 = .ok (.return_, 1) := D_177 W_prog_2_method_2_code_0 10 rfl rfl
theorem W_prog_8_method_7_code_0 : chW prog_8_method_7_code 0 [4, 60, 27, 42, 180, 0, 17, 162, 0, 47, 42, 180, 0, 11, 27, 50, 180, 0, 80, 42, 180, 0, 11, 3, 50, 180, 0, 80, 148, 153, 0, 19, 16, 6, 16, 16] := chW_of (by decide +kernel)
theorem d_8_7_0 : decode prog_8_method_7_code 0 = .ok (.iconst 1, 1) := D_4 W_prog_8_method_7_code_0 0 rfl rfl
theorem d_8_7_1 : decode prog_8_method_7_code 1 = .ok (.istore_n 1, 1) := D_60 W_prog_8_method_7_code_0 1 rfl rfl
theorem d_8_7_2 : decode prog_8_method_7_code 2 = .ok (.iload_n 1, 1) := D_27 W_prog_8_method_7_code_0 2 rfl rfl
theorem d_8_7_3 : decode prog_8_method_7_code 3 = .ok (.aload_n 0, 1) := D_42 W_prog_8_method_7_code_0 3 rfl rfl
theorem d_8_7_4 : decode prog_8_method_7_code 4 = .ok (.getfield 17, 3) := D_180 W_prog_8_method_7_code_0 4 rfl rfl rfl
theorem d_8_7_7 : decode prog_8_method_7_code 7 = .ok (.if_icmp .ge 47, 3) := D_162 W_prog_8_method_7_code_0 7 rfl rfl rfl
theorem W_prog_8_method_7_code_32 : chW prog_8_method_7_code 32 [16, 6, 16, 16, 42, 180, 0, 11, 27, 50, 180, 0, 83, 104, 96, 172, 132, 1, 1, 167, 255, 207, 42, 182, 0, 86, 10, 184, 0, 90, 64, 42, 42, 180, 0, 11] := chW_of (by decide +kernel)
theorem d_8_7_54 : decode prog_8_method_7_code 54 = .ok (.aload_n 0, 1) := D_42 W_prog_8_method_7_code_32 22 rfl rfl
theorem d_8_7_55 : decode prog_8_method_7_code 55 = .ok (.invokevirtual 86, 3) := D_182 W_prog_8_method_7_code_32 23 rfl rfl rfl
theorem d_8_7_58 : decode prog_8_method_7_code 58 = .ok (.lconst 1, 1) := D_10 W_prog_8_method_7_code_32 26 rfl rfl
theorem d_8_7_59 : decode prog_8_method_7_code 59 = .ok (.invokestatic 90, 3) := D_184 W_prog_8_method_7_code_32 27 rfl rfl rfl
theorem d_8_7_62 : decode prog_8_method_7_code 62 = .ok (.lstore_n 1, 1) := D_64 W_prog_8_method_7_code_32 30 rfl rfl
theorem d_8_7_63 : decode prog_8_method_7_code 63 = .ok (.aload_n 0, 1) := D_42 W_prog_8_method_7_code_32 31 rfl rfl
theorem W_prog_8_method_7_code_64 : chW prog_8_method_7_code 64 [42, 180, 0, 11, 3, 50, 180, 0, 80, 31, 97, 10, 101, 31, 109, 136, 181, 0, 36, 3, 172] := chW_of (by decide +kernel)
theorem d_8_7_64 : decode prog_8_method_7_code 64 = .ok (.aload_n 0, 1) := D_42 W_prog_8_method_7_code_64 0 rfl rfl
theorem d_8_7_65 : decode prog_8_method_7_code 65 = .ok (.getfield 11, 3) := D_180 W_prog_8_method_7_code_64 1 rfl rfl rfl
theorem d_8_7_68 : decode prog_8_method_7_code 68 = .ok (.iconst 0, 1) := D_3 W_prog_8_method_7_code_64 4 rfl rfl
theorem d_8_7_69 : decode prog_8_method_7_code 69 = .ok (.aaload, 1) := D_50 W_prog_8_method_7_code_64 5 rfl rfl
theorem d_8_7_70 : decode prog_8_method_7_code 70 = .ok (.getfield 80, 3) := D_180 W_prog_8_method_7_code_64 6 rfl rfl rfl
theorem d_8_7_73 : decode prog_8_method_7_code 73 = .ok (.lload_n 1, 1) := D_31 W_prog_8_method_7_code_64 9 rfl rfl
theorem d_8_7_74 : decode prog_8_method_7_code 74 = .ok (.ladd, 1) := D_97 W_prog_8_method_7_code_64 10 rfl rfl
theorem d_8_7_75 : decode prog_8_method_7_code 75 = .ok (.lconst 1, 1) := D_10 W_prog_8_method_7_code_64 11 rfl rfl
theorem d_8_7_76 : decode prog_8_method_7_code 76 = .ok (.lsub, 1) := D_101 W_prog_8_method_7_code_64 12 rfl rfl
theorem d_8_7_77 : decode prog_8_method_7_code 77 = .ok (.lload_n 1, 1) := D_31 W_prog_8_method_7_code_64 13 rfl rfl
theorem d_8_7_78 : decode prog_8_method_7_code 78 = .ok (.ldiv, 1) := D_109 W_prog_8_method_7_code_64 14 rfl rfl
theorem d_8_7_79 : decode prog_8_method_7_code 79 = .ok (.l2i, 1) := D_136 W_prog_8_method_7_code_64 15 rfl rfl
theorem d_8_7_80 : decode prog_8_method_7_code 80 = .ok (.putfield 36, 3) := D_181 W_prog_8_method_7_code_64 16 rfl rfl rfl
theorem d_8_7_83 : decode prog_8_method_7_code 83 = .ok (.iconst 0, 1) := D_3 W_prog_8_method_7_code_64 19 rfl rfl
theorem d_8_7_84 : decode prog_8_method_7_code 84 = .ok (.ireturn, 1) := D_172 W_prog_8_method_7_code_64 20 rfl rfl
theorem d_8_7_10 : decode prog_8_method_7_code 10 = .ok (.aload_n 0, 1) := D_42 W_prog_8_method_7_code_0 10 rfl rfl
theorem d_8_7_11 : decode prog_8_method_7_code 11 = .ok (.getfield 11, 3) := D_180 W_prog_8_method_7_code_0 11 rfl rfl rfl
theorem d_8_7_14 : decode prog_8_method_7_code 14 = .ok (.iload_n 1, 1) := D_27 W_prog_8_method_7_code_0 14 rfl rfl
theorem d_8_7_15 : decode prog_8_method_7_code 15 = .ok (.aaload, 1) := D_50 W_prog_8_method_7_code_0 15 rfl rfl
theorem d_8_7_16 : decode prog_8_method_7_code 16 = .ok (.getfield 80, 3) := D_180 W_prog_8_method_7_code_0 16 rfl rfl rfl
theorem d_8_7_19 : decode prog_8_method_7_code 19 = .ok (.aload_n 0, 1) := D_42 W_prog_8_method_7_code_0 19 rfl rfl
theorem d_8_7_20 : decode prog_8_method_7_code 20 = .ok (.getfield 11, 3) := D_180 W_prog_8_method_7_code_0 20 rfl rfl rfl
theorem d_8_7_23 : decode prog_8_method_7_code 23 = .ok (.iconst 0, 1) := D_3 W_prog_8_method_7_code_0 23 rfl rfl
theorem d_8_7_24 : decode prog_8_method_7_code 24 = .ok (.aaload, 1) := D_50 W_prog_8_method_7_code_0 24 rfl rfl
theorem d_8_7_25 : decode prog_8_method_7_code 25 = .ok (.getfield 80, 3) := D_180 W_prog_8_method_7_code_0 25 rfl rfl rfl
theorem d_8_7_28 : decode prog_8_method_7_code 28 = .ok (.lcmp, 1) := D_148 W_prog_8_method_7_code_0 28 rfl rfl
theorem d_8_7_29 : decode prog_8_method_7_code 29 = .ok (.ifCond .eq 19, 3) := D_153 W_prog_8_method_7_code_0 29 rfl rfl rfl
theorem d_8_7_48 : decode prog_8_method_7_code 48 = .ok (.iinc 1 1, 3) := D_132 W_prog_8_method_7_code_32 16 rfl rfl rfl
theorem d_8_7_51 : decode prog_8_method_7_code 51 = .ok (.goto (-49), 3) := D_167 W_prog_8_method_7_code_32 19 rfl rfl rfl
theorem d_8_7_32 : decode prog_8_method_7_code 32 = .ok (.bipush 6, 2) := D_16 W_prog_8_method_7_code_32 0 rfl rfl rfl
theorem d_8_7_34 : decode prog_8_method_7_code 34 = .ok (.bipush 16, 2) := D_16 W_prog_8_method_7_code_32 2 rfl rfl rfl
theorem d_8_7_36 : decode prog_8_method_7_code 36 = .ok (.aload_n 0, 1) := D_42 W_prog_8_method_7_code_32 4 rfl rfl
theorem d_8_7_37 : decode prog_8_method_7_code 37 = .ok (.getfield 11, 3) := D_180 W_prog_8_method_7_code_32 5 rfl rfl rfl
theorem d_8_7_40 : decode prog_8_method_7_code 40 = .ok (.iload_n 1, 1) := D_27 W_prog_8_method_7_code_32 8 rfl rfl
theorem d_8_7_41 : decode prog_8_method_7_code 41 = .ok (.aaload, 1) := D_50 W_prog_8_method_7_code_32 9 rfl rfl
theorem d_8_7_42 : decode prog_8_method_7_code 42 = .ok (.getfield 83, 3) := D_180 W_prog_8_method_7_code_32 10 rfl rfl rfl
theorem d_8_7_45 : decode prog_8_method_7_code 45 = .ok (.imul, 1) := D_104 W_prog_8_method_7_code_32 13 rfl rfl
theorem d_8_7_46 : decode prog_8_method_7_code 46 = .ok (.iadd, 1) := D_96 W_prog_8_method_7_code_32 14 rfl rfl
theorem d_8_7_47 : decode prog_8_method_7_code 47 = .ok (.ireturn, 1) := D_172 W_prog_8_method_7_code_32 15 rfl rfl
theorem W_prog_1_method_6_code_0 : chW prog_1_method_6_code 0 [27, 155, 0, 8, 27, 5, 161, 0, 7, 1, 167, 0, 9, 42, 180, 0, 27, 27, 50, 176] := chW_of (by decide +kernel)
theorem d_1_6_0 : decode prog_1_method_6_code 0 = .ok (.iload_n 1, 1) := D_27 W_prog_1_method_6_code_0 0 rfl rfl
theorem d_1_6_1 : decode prog_1_method_6_code 1 = .ok (.ifCond .lt 8, 3) := D_155 W_prog_1_method_6_code_0 1 rfl rfl rfl
theorem d_1_6_4 : decode prog_1_method_6_code 4 = .ok (.iload_n 1, 1) := D_27 W_prog_1_method_6_code_0 4 rfl rfl
theorem d_1_6_5 : decode prog_1_method_6_code 5 = .ok (.iconst 2, 1) := D_5 W_prog_1_method_6_code_0 5 rfl rfl
theorem d_1_6_6 : decode prog_1_method_6_code 6 = .ok (.if_icmp .lt 7, 3) := D_161 W_prog_1_method_6_code_0 6 rfl rfl rfl
theorem d_1_6_13 : decode prog_1_method_6_code 13 = .ok (.aload_n 0, 1) := D_42 W_prog_1_method_6_code_0 13 rfl rfl
theorem d_1_6_14 : decode prog_1_method_6_code 14 = .ok (.getfield 27, 3) := D_180 W_prog_1_method_6_code_0 14 rfl rfl rfl
theorem d_1_6_17 : decode prog_1_method_6_code 17 = .ok (.iload_n 1, 1) := D_27 W_prog_1_method_6_code_0 17 rfl rfl
theorem d_1_6_18 : decode prog_1_method_6_code 18 = .ok (.aaload, 1) := D_50 W_prog_1_method_6_code_0 18 rfl rfl
theorem d_1_6_9 : decode prog_1_method_6_code 9 = .ok (.aconst_null, 1) := D_1 W_prog_1_method_6_code_0 9 rfl rfl
theorem d_1_6_10 : decode prog_1_method_6_code 10 = .ok (.goto 9, 3) := D_167 W_prog_1_method_6_code_0 10 rfl rfl rfl
theorem d_1_6_19 : decode prog_1_method_6_code 19 = .ok (.areturn, 1) := D_176 W_prog_1_method_6_code_0 19 rfl rfl
theorem W_prog_11_method_4_code_0 : chW prog_11_method_4_code 0 [20, 0, 96, 66, 3, 54, 5, 21, 5, 43, 180, 0, 58, 162, 0, 75, 43, 180, 0, 77, 21, 5, 50, 58, 6, 42, 180, 0, 20, 21, 5, 50, 28, 46, 4, 96] := chW_of (by decide +kernel)
theorem d_11_4_0 : decode prog_11_method_4_code 0 = .ok (.ldc2_w 96, 3) := D_20 W_prog_11_method_4_code_0 0 rfl rfl rfl
theorem d_11_4_3 : decode prog_11_method_4_code 3 = .ok (.lstore_n 3, 1) := D_66 W_prog_11_method_4_code_0 3 rfl rfl
theorem d_11_4_4 : decode prog_11_method_4_code 4 = .ok (.iconst 0, 1) := D_3 W_prog_11_method_4_code_0 4 rfl rfl
theorem d_11_4_5 : decode prog_11_method_4_code 5 = .ok (.istore 5, 2) := D_54 W_prog_11_method_4_code_0 5 rfl rfl
theorem d_11_4_7 : decode prog_11_method_4_code 7 = .ok (.iload 5, 2) := D_21 W_prog_11_method_4_code_0 7 rfl rfl
theorem d_11_4_9 : decode prog_11_method_4_code 9 = .ok (.aload_n 1, 1) := D_43 W_prog_11_method_4_code_0 9 rfl rfl
theorem d_11_4_10 : decode prog_11_method_4_code 10 = .ok (.getfield 58, 3) := D_180 W_prog_11_method_4_code_0 10 rfl rfl rfl
theorem d_11_4_13 : decode prog_11_method_4_code 13 = .ok (.if_icmp .ge 75, 3) := D_162 W_prog_11_method_4_code_0 13 rfl rfl rfl
theorem W_prog_11_method_4_code_64 : chW prog_11_method_4_code 64 [90, 33, 148, 156, 0, 15, 25, 6, 180, 0, 86, 21, 7, 50, 180, 0, 90, 66, 132, 5, 1, 167, 255, 178, 33, 173] := chW_of (by decide +kernel)
theorem d_11_4_88 : decode prog_11_method_4_code 88 = .ok (.lload_n 3, 1) := D_33 W_prog_11_method_4_code_64 24 rfl rfl
theorem d_11_4_89 : decode prog_11_method_4_code 89 = .ok (.lreturn, 1) := D_173 W_prog_11_method_4_code_64 25 rfl rfl
theorem d_11_4_16 : decode prog_11_method_4_code 16 = .ok (.aload_n 1, 1) := D_43 W_prog_11_method_4_code_0 16 rfl rfl
theorem d_11_4_17 : decode prog_11_method_4_code 17 = .ok (.getfield 77, 3) := D_180 W_prog_11_method_4_code_0 17 rfl rfl rfl
theorem d_11_4_20 : decode prog_11_method_4_code 20 = .ok (.iload 5, 2) := D_21 W_prog_11_method_4_code_0 20 rfl rfl
theorem d_11_4_22 : decode prog_11_method_4_code 22 = .ok (.aaload, 1) := D_50 W_prog_11_method_4_code_0 22 rfl rfl
theorem d_11_4_23 : decode prog_11_method_4_code 23 = .ok (.astore 6, 2) := D_58 W_prog_11_method_4_code_0 23 rfl rfl
theorem d_11_4_25 : decode prog_11_method_4_code 25 = .ok (.aload_n 0, 1) := D_42 W_prog_11_method_4_code_0 25 rfl rfl
theorem d_11_4_26 : decode prog_11_method_4_code 26 = .ok (.getfield 20, 3) := D_180 W_prog_11_method_4_code_0 26 rfl rfl rfl
theorem d_11_4_29 : decode prog_11_method_4_code 29 = .ok (.iload 5, 2) := D_21 W_prog_11_method_4_code_0 29 rfl rfl
theorem d_11_4_31 : decode prog_11_method_4_code 31 = .ok (.aaload, 1) := D_50 W_prog_11_method_4_code_0 31 rfl rfl
theorem W_prog_11_method_4_code_32 : chW prog_11_method_4_code 32 [28, 46, 4, 96, 54, 7, 21, 7, 25, 6, 180, 0, 81, 162, 0, 37, 33, 9, 148, 155, 0, 19, 25, 6, 180, 0, 86, 21, 7, 50, 180, 0, 90, 33, 148, 156] := chW_of (by decide +kernel)
theorem d_11_4_32 : decode prog_11_method_4_code 32 = .ok (.iload_n 2, 1) := D_28 W_prog_11_method_4_code_32 0 rfl rfl
theorem d_11_4_33 : decode prog_11_method_4_code 33 = .ok (.iaload, 1) := D_46 W_prog_11_method_4_code_32 1 rfl rfl
theorem d_11_4_34 : decode prog_11_method_4_code 34 = .ok (.iconst 1, 1) := D_4 W_prog_11_method_4_code_32 2 rfl rfl
theorem d_11_4_35 : decode prog_11_method_4_code 35 = .ok (.iadd, 1) := D_96 W_prog_11_method_4_code_32 3 rfl rfl
theorem d_11_4_36 : decode prog_11_method_4_code 36 = .ok (.istore 7, 2) := D_54 W_prog_11_method_4_code_32 4 rfl rfl
theorem d_11_4_38 : decode prog_11_method_4_code 38 = .ok (.iload 7, 2) := D_21 W_prog_11_method_4_code_32 6 rfl rfl
theorem d_11_4_40 : decode prog_11_method_4_code 40 = .ok (.aload 6, 2) := D_25 W_prog_11_method_4_code_32 8 rfl rfl
theorem d_11_4_42 : decode prog_11_method_4_code 42 = .ok (.getfield 81, 3) := D_180 W_prog_11_method_4_code_32 10 rfl rfl rfl
theorem d_11_4_45 : decode prog_11_method_4_code 45 = .ok (.if_icmp .ge 37, 3) := D_162 W_prog_11_method_4_code_32 13 rfl rfl rfl
theorem d_11_4_48 : decode prog_11_method_4_code 48 = .ok (.lload_n 3, 1) := D_33 W_prog_11_method_4_code_32 16 rfl rfl
theorem d_11_4_49 : decode prog_11_method_4_code 49 = .ok (.lconst 0, 1) := D_9 W_prog_11_method_4_code_32 17 rfl rfl
theorem d_11_4_50 : decode prog_11_method_4_code 50 = .ok (.lcmp, 1) := D_148 W_prog_11_method_4_code_32 18 rfl rfl
theorem d_11_4_51 : decode prog_11_method_4_code 51 = .ok (.ifCond .lt 19, 3) := D_155 W_prog_11_method_4_code_32 19 rfl rfl rfl
theorem d_11_4_54 : decode prog_11_method_4_code 54 = .ok (.aload 6, 2) := D_25 W_prog_11_method_4_code_32 22 rfl rfl
theorem d_11_4_56 : decode prog_11_method_4_code 56 = .ok (.getfield 86, 3) := D_180 W_prog_11_method_4_code_32 24 rfl rfl rfl
theorem d_11_4_59 : decode prog_11_method_4_code 59 = .ok (.iload 7, 2) := D_21 W_prog_11_method_4_code_32 27 rfl rfl
theorem d_11_4_61 : decode prog_11_method_4_code 61 = .ok (.aaload, 1) := D_50 W_prog_11_method_4_code_32 29 rfl rfl
theorem d_11_4_62 : decode prog_11_method_4_code 62 = .ok (.getfield 90, 3) := D_180 W_prog_11_method_4_code_32 30 rfl rfl rfl
theorem d_11_4_65 : decode prog_11_method_4_code 65 = .ok (.lload_n 3, 1) := D_33 W_prog_11_method_4_code_64 1 rfl rfl
theorem d_11_4_66 : decode prog_11_method_4_code 66 = .ok (.lcmp, 1) := D_148 W_prog_11_method_4_code_64 2 rfl rfl
theorem d_11_4_67 : decode prog_11_method_4_code 67 = .ok (.ifCond .ge 15, 3) := D_156 W_prog_11_method_4_code_64 3 rfl rfl rfl
theorem d_11_4_70 : decode prog_11_method_4_code 70 = .ok (.aload 6, 2) := D_25 W_prog_11_method_4_code_64 6 rfl rfl
theorem d_11_4_72 : decode prog_11_method_4_code 72 = .ok (.getfield 86, 3) := D_180 W_prog_11_method_4_code_64 8 rfl rfl rfl
theorem d_11_4_75 : decode prog_11_method_4_code 75 = .ok (.iload 7, 2) := D_21 W_prog_11_method_4_code_64 11 rfl rfl
theorem d_11_4_77 : decode prog_11_method_4_code 77 = .ok (.aaload, 1) := D_50 W_prog_11_method_4_code_64 13 rfl rfl
theorem d_11_4_78 : decode prog_11_method_4_code 78 = .ok (.getfield 90, 3) := D_180 W_prog_11_method_4_code_64 14 rfl rfl rfl
theorem d_11_4_81 : decode prog_11_method_4_code 81 = .ok (.lstore_n 3, 1) := D_66 W_prog_11_method_4_code_64 17 rfl rfl
theorem d_11_4_82 : decode prog_11_method_4_code 82 = .ok (.iinc 5 1, 3) := D_132 W_prog_11_method_4_code_64 18 rfl rfl rfl
theorem d_11_4_85 : decode prog_11_method_4_code 85 = .ok (.goto (-78), 3) := D_167 W_prog_11_method_4_code_64 21 rfl rfl rfl
theorem W_prog_11_method_5_code_0 : chW prog_11_method_5_code 0 [42, 180, 0, 20, 28, 50, 29, 46, 54, 4, 21, 4, 155, 0, 17, 21, 4, 43, 180, 0, 77, 28, 50, 180, 0, 81, 161, 0, 7, 1, 167, 0, 15, 43, 180, 0] := chW_of (by decide +kernel)
theorem d_11_5_0 : decode prog_11_method_5_code 0 = .ok (.aload_n 0, 1) := D_42 W_prog_11_method_5_code_0 0 rfl rfl
theorem d_11_5_1 : decode prog_11_method_5_code 1 = .ok (.getfield 20, 3) := D_180 W_prog_11_method_5_code_0 1 rfl rfl rfl
theorem d_11_5_4 : decode prog_11_method_5_code 4 = .ok (.iload_n 2, 1) := D_28 W_prog_11_method_5_code_0 4 rfl rfl
theorem d_11_5_5 : decode prog_11_method_5_code 5 = .ok (.aaload, 1) := D_50 W_prog_11_method_5_code_0 5 rfl rfl
theorem d_11_5_6 : decode prog_11_method_5_code 6 = .ok (.iload_n 3, 1) := D_29 W_prog_11_method_5_code_0 6 rfl rfl
theorem d_11_5_7 : decode prog_11_method_5_code 7 = .ok (.iaload, 1) := D_46 W_prog_11_method_5_code_0 7 rfl rfl
theorem d_11_5_8 : decode prog_11_method_5_code 8 = .ok (.istore 4, 2) := D_54 W_prog_11_method_5_code_0 8 rfl rfl
theorem d_11_5_10 : decode prog_11_method_5_code 10 = .ok (.iload 4, 2) := D_21 W_prog_11_method_5_code_0 10 rfl rfl
theorem d_11_5_12 : decode prog_11_method_5_code 12 = .ok (.ifCond .lt 17, 3) := D_155 W_prog_11_method_5_code_0 12 rfl rfl rfl
theorem d_11_5_15 : decode prog_11_method_5_code 15 = .ok (.iload 4, 2) := D_21 W_prog_11_method_5_code_0 15 rfl rfl
theorem d_11_5_17 : decode prog_11_method_5_code 17 = .ok (.aload_n 1, 1) := D_43 W_prog_11_method_5_code_0 17 rfl rfl
theorem d_11_5_18 : decode prog_11_method_5_code 18 = .ok (.getfield 77, 3) := D_180 W_prog_11_method_5_code_0 18 rfl rfl rfl
theorem d_11_5_21 : decode prog_11_method_5_code 21 = .ok (.iload_n 2, 1) := D_28 W_prog_11_method_5_code_0 21 rfl rfl
theorem d_11_5_22 : decode prog_11_method_5_code 22 = .ok (.aaload, 1) := D_50 W_prog_11_method_5_code_0 22 rfl rfl
theorem d_11_5_23 : decode prog_11_method_5_code 23 = .ok (.getfield 81, 3) := D_180 W_prog_11_method_5_code_0 23 rfl rfl rfl
theorem d_11_5_26 : decode prog_11_method_5_code 26 = .ok (.if_icmp .lt 7, 3) := D_161 W_prog_11_method_5_code_0 26 rfl rfl rfl
theorem W_prog_11_method_5_code_32 : chW prog_11_method_5_code 32 [15, 43, 180, 0, 77, 28, 50, 180, 0, 86, 21, 4, 50, 176] := chW_of (by decide +kernel)
theorem d_11_5_33 : decode prog_11_method_5_code 33 = .ok (.aload_n 1, 1) := D_43 W_prog_11_method_5_code_32 1 rfl rfl
theorem d_11_5_34 : decode prog_11_method_5_code 34 = .ok (.getfield 77, 3) := D_180 W_prog_11_method_5_code_32 2 rfl rfl rfl
theorem d_11_5_37 : decode prog_11_method_5_code 37 = .ok (.iload_n 2, 1) := D_28 W_prog_11_method_5_code_32 5 rfl rfl
theorem d_11_5_38 : decode prog_11_method_5_code 38 = .ok (.aaload, 1) := D_50 W_prog_11_method_5_code_32 6 rfl rfl
theorem d_11_5_39 : decode prog_11_method_5_code 39 = .ok (.getfield 86, 3) := D_180 W_prog_11_method_5_code_32 7 rfl rfl rfl
theorem d_11_5_42 : decode prog_11_method_5_code 42 = .ok (.iload 4, 2) := D_21 W_prog_11_method_5_code_32 10 rfl rfl
theorem d_11_5_44 : decode prog_11_method_5_code 44 = .ok (.aaload, 1) := D_50 W_prog_11_method_5_code_32 12 rfl rfl
theorem d_11_5_29 : decode prog_11_method_5_code 29 = .ok (.aconst_null, 1) := D_1 W_prog_11_method_5_code_0 29 rfl rfl
theorem d_11_5_30 : decode prog_11_method_5_code 30 = .ok (.goto 15, 3) := D_167 W_prog_11_method_5_code_0 30 rfl rfl rfl
theorem d_11_5_45 : decode prog_11_method_5_code 45 = .ok (.areturn, 1) := D_176 W_prog_11_method_5_code_32 13 rfl rfl
theorem W_prog_11_method_10_code_0 : chW prog_11_method_10_code 0 [29, 27, 164, 0, 7, 4, 167, 0, 4, 3, 54, 4, 21, 4, 153, 0, 9, 28, 26, 100, 167, 0, 6, 26, 28, 100, 16, 7, 184, 0, 130, 54, 5, 27, 29, 100] := chW_of (by decide +kernel)
theorem d_11_10_0 : decode prog_11_method_10_code 0 = .ok (.iload_n 3, 1) := D_29 W_prog_11_method_10_code_0 0 rfl rfl
theorem d_11_10_1 : decode prog_11_method_10_code 1 = .ok (.iload_n 1, 1) := D_27 W_prog_11_method_10_code_0 1 rfl rfl
theorem d_11_10_2 : decode prog_11_method_10_code 2 = .ok (.if_icmp .le 7, 3) := D_164 W_prog_11_method_10_code_0 2 rfl rfl rfl
theorem d_11_10_9 : decode prog_11_method_10_code 9 = .ok (.iconst 0, 1) := D_3 W_prog_11_method_10_code_0 9 rfl rfl
theorem d_11_10_5 : decode prog_11_method_10_code 5 = .ok (.iconst 1, 1) := D_4 W_prog_11_method_10_code_0 5 rfl rfl
theorem d_11_10_6 : decode prog_11_method_10_code 6 = .ok (.goto 4, 3) := D_167 W_prog_11_method_10_code_0 6 rfl rfl rfl
theorem d_11_10_10 : decode prog_11_method_10_code 10 = .ok (.istore 4, 2) := D_54 W_prog_11_method_10_code_0 10 rfl rfl
theorem d_11_10_12 : decode prog_11_method_10_code 12 = .ok (.iload 4, 2) := D_21 W_prog_11_method_10_code_0 12 rfl rfl
theorem d_11_10_14 : decode prog_11_method_10_code 14 = .ok (.ifCond .eq 9, 3) := D_153 W_prog_11_method_10_code_0 14 rfl rfl rfl
theorem d_11_10_23 : decode prog_11_method_10_code 23 = .ok (.iload_n 0, 1) := D_26 W_prog_11_method_10_code_0 23 rfl rfl
theorem d_11_10_24 : decode prog_11_method_10_code 24 = .ok (.iload_n 2, 1) := D_28 W_prog_11_method_10_code_0 24 rfl rfl
theorem d_11_10_25 : decode prog_11_method_10_code 25 = .ok (.isub, 1) := D_100 W_prog_11_method_10_code_0 25 rfl rfl
theorem d_11_10_17 : decode prog_11_method_10_code 17 = .ok (.iload_n 2, 1) := D_28 W_prog_11_method_10_code_0 17 rfl rfl
theorem d_11_10_18 : decode prog_11_method_10_code 18 = .ok (.iload_n 0, 1) := D_26 W_prog_11_method_10_code_0 18 rfl rfl
theorem d_11_10_19 : decode prog_11_method_10_code 19 = .ok (.isub, 1) := D_100 W_prog_11_method_10_code_0 19 rfl rfl
theorem d_11_10_20 : decode prog_11_method_10_code 20 = .ok (.goto 6, 3) := D_167 W_prog_11_method_10_code_0 20 rfl rfl rfl
theorem d_11_10_26 : decode prog_11_method_10_code 26 = .ok (.bipush 7, 2) := D_16 W_prog_11_method_10_code_0 26 rfl rfl rfl
theorem d_11_10_28 : decode prog_11_method_10_code 28 = .ok (.invokestatic 130, 3) := D_184 W_prog_11_method_10_code_0 28 rfl rfl rfl
theorem d_11_10_31 : decode prog_11_method_10_code 31 = .ok (.istore 5, 2) := D_54 W_prog_11_method_10_code_0 31 rfl rfl
theorem W_prog_11_method_10_code_32 : chW prog_11_method_10_code 32 [5, 27, 29, 100, 184, 0, 127, 16, 12, 112, 54, 6, 21, 5, 154, 0, 10, 21, 6, 154, 0, 5, 4, 172, 21, 5, 7, 160, 0, 14, 21, 6, 16, 7, 160, 0] := chW_of (by decide +kernel)
theorem d_11_10_33 : decode prog_11_method_10_code 33 = .ok (.iload_n 1, 1) := D_27 W_prog_11_method_10_code_32 1 rfl rfl
theorem d_11_10_34 : decode prog_11_method_10_code 34 = .ok (.iload_n 3, 1) := D_29 W_prog_11_method_10_code_32 2 rfl rfl
theorem d_11_10_35 : decode prog_11_method_10_code 35 = .ok (.isub, 1) := D_100 W_prog_11_method_10_code_32 3 rfl rfl
theorem d_11_10_36 : decode prog_11_method_10_code 36 = .ok (.invokestatic 127, 3) := D_184 W_prog_11_method_10_code_32 4 rfl rfl rfl
theorem d_11_10_39 : decode prog_11_method_10_code 39 = .ok (.bipush 12, 2) := D_16 W_prog_11_method_10_code_32 7 rfl rfl rfl
theorem d_11_10_41 : decode prog_11_method_10_code 41 = .ok (.irem, 1) := D_112 W_prog_11_method_10_code_32 9 rfl rfl
theorem d_11_10_42 : decode prog_11_method_10_code 42 = .ok (.istore 6, 2) := D_54 W_prog_11_method_10_code_32 10 rfl rfl
theorem d_11_10_44 : decode prog_11_method_10_code 44 = .ok (.iload 5, 2) := D_21 W_prog_11_method_10_code_32 12 rfl rfl
theorem d_11_10_46 : decode prog_11_method_10_code 46 = .ok (.ifCond .ne 10, 3) := D_154 W_prog_11_method_10_code_32 14 rfl rfl rfl
theorem d_11_10_49 : decode prog_11_method_10_code 49 = .ok (.iload 6, 2) := D_21 W_prog_11_method_10_code_32 17 rfl rfl
theorem d_11_10_51 : decode prog_11_method_10_code 51 = .ok (.ifCond .ne 5, 3) := D_154 W_prog_11_method_10_code_32 19 rfl rfl rfl
theorem d_11_10_54 : decode prog_11_method_10_code 54 = .ok (.iconst 1, 1) := D_4 W_prog_11_method_10_code_32 22 rfl rfl
theorem d_11_10_55 : decode prog_11_method_10_code 55 = .ok (.ireturn, 1) := D_172 W_prog_11_method_10_code_32 23 rfl rfl
theorem d_11_10_56 : decode prog_11_method_10_code 56 = .ok (.iload 5, 2) := D_21 W_prog_11_method_10_code_32 24 rfl rfl
theorem d_11_10_58 : decode prog_11_method_10_code 58 = .ok (.iconst 4, 1) := D_7 W_prog_11_method_10_code_32 26 rfl rfl
theorem d_11_10_59 : decode prog_11_method_10_code 59 = .ok (.if_icmp .ne 14, 3) := D_160 W_prog_11_method_10_code_32 27 rfl rfl rfl
theorem d_11_10_62 : decode prog_11_method_10_code 62 = .ok (.iload 6, 2) := D_21 W_prog_11_method_10_code_32 30 rfl rfl
theorem W_prog_11_method_10_code_64 : chW prog_11_method_10_code 64 [16, 7, 160, 0, 7, 5, 167, 0, 4, 3, 172] := chW_of (by decide +kernel)
theorem d_11_10_64 : decode prog_11_method_10_code 64 = .ok (.bipush 7, 2) := D_16 W_prog_11_method_10_code_64 0 rfl rfl rfl
theorem d_11_10_66 : decode prog_11_method_10_code 66 = .ok (.if_icmp .ne 7, 3) := D_160 W_prog_11_method_10_code_64 2 rfl rfl rfl
theorem d_11_10_69 : decode prog_11_method_10_code 69 = .ok (.iconst 2, 1) := D_5 W_prog_11_method_10_code_64 5 rfl rfl
theorem d_11_10_70 : decode prog_11_method_10_code 70 = .ok (.goto 4, 3) := D_167 W_prog_11_method_10_code_64 6 rfl rfl rfl
theorem d_11_10_74 : decode prog_11_method_10_code 74 = .ok (.ireturn, 1) := D_172 W_prog_11_method_10_code_64 10 rfl rfl
theorem d_11_10_73 : decode prog_11_method_10_code 73 = .ok (.iconst 0, 1) := D_3 W_prog_11_method_10_code_64 9 rfl rfl
theorem W_prog_11_method_8_code_0 : chW prog_11_method_8_code 0 [42, 180, 0, 47, 17, 1, 44, 161, 0, 4, 177, 42, 180, 0, 17, 3, 50, 42, 180, 0, 47, 27, 79, 42, 180, 0, 17, 4, 50, 42, 180, 0, 47, 28, 79, 42] := chW_of (by decide +kernel)
theorem d_11_8_0 : decode prog_11_method_8_code 0 = .ok (.aload_n 0, 1) := D_42 W_prog_11_method_8_code_0 0 rfl rfl
theorem d_11_8_1 : decode prog_11_method_8_code 1 = .ok (.getfield 47, 3) := D_180 W_prog_11_method_8_code_0 1 rfl rfl rfl
theorem d_11_8_4 : decode prog_11_method_8_code 4 = .ok (.sipush 300, 3) := D_17 W_prog_11_method_8_code_0 4 rfl rfl rfl
theorem d_11_8_7 : decode prog_11_method_8_code 7 = .ok (.if_icmp .lt 4, 3) := D_161 W_prog_11_method_8_code_0 7 rfl rfl rfl
theorem d_11_8_11 : decode prog_11_method_8_code 11 = .ok (.aload_n 0, 1) := D_42 W_prog_11_method_8_code_0 11 rfl rfl
theorem d_11_8_12 : decode prog_11_method_8_code 12 = .ok (.getfield 17, 3) := D_180 W_prog_11_method_8_code_0 12 rfl rfl rfl
theorem d_11_8_15 : decode prog_11_method_8_code 15 = .ok (.iconst 0, 1) := D_3 W_prog_11_method_8_code_0 15 rfl rfl
theorem d_11_8_16 : decode prog_11_method_8_code 16 = .ok (.aaload, 1) := D_50 W_prog_11_method_8_code_0 16 rfl rfl
theorem d_11_8_17 : decode prog_11_method_8_code 17 = .ok (.aload_n 0, 1) := D_42 W_prog_11_method_8_code_0 17 rfl rfl
theorem d_11_8_18 : decode prog_11_method_8_code 18 = .ok (.getfield 47, 3) := D_180 W_prog_11_method_8_code_0 18 rfl rfl rfl
theorem d_11_8_21 : decode prog_11_method_8_code 21 = .ok (.iload_n 1, 1) := D_27 W_prog_11_method_8_code_0 21 rfl rfl
theorem d_11_8_22 : decode prog_11_method_8_code 22 = .ok (.iastore, 1) := D_79 W_prog_11_method_8_code_0 22 rfl rfl
theorem d_11_8_23 : decode prog_11_method_8_code 23 = .ok (.aload_n 0, 1) := D_42 W_prog_11_method_8_code_0 23 rfl rfl
theorem d_11_8_24 : decode prog_11_method_8_code 24 = .ok (.getfield 17, 3) := D_180 W_prog_11_method_8_code_0 24 rfl rfl rfl
theorem d_11_8_27 : decode prog_11_method_8_code 27 = .ok (.iconst 1, 1) := D_4 W_prog_11_method_8_code_0 27 rfl rfl
theorem d_11_8_28 : decode prog_11_method_8_code 28 = .ok (.aaload, 1) := D_50 W_prog_11_method_8_code_0 28 rfl rfl
theorem d_11_8_29 : decode prog_11_method_8_code 29 = .ok (.aload_n 0, 1) := D_42 W_prog_11_method_8_code_0 29 rfl rfl
theorem d_11_8_30 : decode prog_11_method_8_code 30 = .ok (.getfield 47, 3) := D_180 W_prog_11_method_8_code_0 30 rfl rfl rfl
theorem W_prog_11_method_8_code_32 : chW prog_11_method_8_code 32 [47, 28, 79, 42, 180, 0, 17, 5, 50, 42, 180, 0, 47, 29, 79, 42, 180, 0, 17, 6, 50, 42, 180, 0, 47, 21, 4, 79, 42, 89, 180, 0, 47, 4, 96, 181] := chW_of (by decide +kernel)
theorem d_11_8_33 : decode prog_11_method_8_code 33 = .ok (.iload_n 2, 1) := D_28 W_prog_11_method_8_code_32 1 rfl rfl
theorem d_11_8_34 : decode prog_11_method_8_code 34 = .ok (.iastore, 1) := D_79 W_prog_11_method_8_code_32 2 rfl rfl
theorem d_11_8_35 : decode prog_11_method_8_code 35 = .ok (.aload_n 0, 1) := D_42 W_prog_11_method_8_code_32 3 rfl rfl
theorem d_11_8_36 : decode prog_11_method_8_code 36 = .ok (.getfield 17, 3) := D_180 W_prog_11_method_8_code_32 4 rfl rfl rfl
theorem d_11_8_39 : decode prog_11_method_8_code 39 = .ok (.iconst 2, 1) := D_5 W_prog_11_method_8_code_32 7 rfl rfl
theorem d_11_8_40 : decode prog_11_method_8_code 40 = .ok (.aaload, 1) := D_50 W_prog_11_method_8_code_32 8 rfl rfl
theorem d_11_8_41 : decode prog_11_method_8_code 41 = .ok (.aload_n 0, 1) := D_42 W_prog_11_method_8_code_32 9 rfl rfl
theorem d_11_8_42 : decode prog_11_method_8_code 42 = .ok (.getfield 47, 3) := D_180 W_prog_11_method_8_code_32 10 rfl rfl rfl
theorem d_11_8_45 : decode prog_11_method_8_code 45 = .ok (.iload_n 3, 1) := D_29 W_prog_11_method_8_code_32 13 rfl rfl
theorem d_11_8_46 : decode prog_11_method_8_code 46 = .ok (.iastore, 1) := D_79 W_prog_11_method_8_code_32 14 rfl rfl
theorem d_11_8_47 : decode prog_11_method_8_code 47 = .ok (.aload_n 0, 1) := D_42 W_prog_11_method_8_code_32 15 rfl rfl
theorem d_11_8_48 : decode prog_11_method_8_code 48 = .ok (.getfield 17, 3) := D_180 W_prog_11_method_8_code_32 16 rfl rfl rfl
theorem d_11_8_51 : decode prog_11_method_8_code 51 = .ok (.iconst 3, 1) := D_6 W_prog_11_method_8_code_32 19 rfl rfl
theorem d_11_8_52 : decode prog_11_method_8_code 52 = .ok (.aaload, 1) := D_50 W_prog_11_method_8_code_32 20 rfl rfl
theorem d_11_8_53 : decode prog_11_method_8_code 53 = .ok (.aload_n 0, 1) := D_42 W_prog_11_method_8_code_32 21 rfl rfl
theorem d_11_8_54 : decode prog_11_method_8_code 54 = .ok (.getfield 47, 3) := D_180 W_prog_11_method_8_code_32 22 rfl rfl rfl
theorem d_11_8_57 : decode prog_11_method_8_code 57 = .ok (.iload 4, 2) := D_21 W_prog_11_method_8_code_32 25 rfl rfl
theorem d_11_8_59 : decode prog_11_method_8_code 59 = .ok (.iastore, 1) := D_79 W_prog_11_method_8_code_32 27 rfl rfl
theorem d_11_8_60 : decode prog_11_method_8_code 60 = .ok (.aload_n 0, 1) := D_42 W_prog_11_method_8_code_32 28 rfl rfl
theorem d_11_8_61 : decode prog_11_method_8_code 61 = .ok (.dup, 1) := D_89 W_prog_11_method_8_code_32 29 rfl rfl
theorem d_11_8_62 : decode prog_11_method_8_code 62 = .ok (.getfield 47, 3) := D_180 W_prog_11_method_8_code_32 30 rfl rfl rfl
theorem W_prog_11_method_8_code_64 : chW prog_11_method_8_code 64 [47, 4, 96, 181, 0, 47, 177] := chW_of (by decide +kernel)
theorem d_11_8_65 : decode prog_11_method_8_code 65 = .ok (.iconst 1, 1) := D_4 W_prog_11_method_8_code_64 1 rfl rfl
theorem d_11_8_66 : decode prog_11_method_8_code 66 = .ok (.iadd, 1) := D_96 W_prog_11_method_8_code_64 2 rfl rfl
theorem d_11_8_67 : decode prog_11_method_8_code 67 = .ok (.putfield 47, 3) := D_181 W_prog_11_method_8_code_64 3 rfl rfl rfl
theorem d_11_8_70 : decode prog_11_method_8_code 70 = .ok (.return_, 1) := D_177 W_prog_11_method_8_code_64 6 rfl rfl
theorem d_11_8_10 : decode prog_11_method_8_code 10 = .ok (.return_, 1) := D_177 W_prog_11_method_8_code_0 10 rfl rfl
theorem W_prog_11_method_11_code_0 : chW prog_11_method_11_code 0 [42, 180, 0, 36, 28, 51, 153, 0, 23, 42, 180, 0, 27, 28, 46, 2, 159, 0, 13, 42, 180, 0, 33, 28, 46, 2, 160, 0, 5, 3, 172, 42, 180, 0, 23, 28] := chW_of (by decide +kernel)
theorem d_11_11_0 : decode prog_11_method_11_code 0 = .ok (.aload_n 0, 1) := D_42 W_prog_11_method_11_code_0 0 rfl rfl
theorem d_11_11_1 : decode prog_11_method_11_code 1 = .ok (.getfield 36, 3) := D_180 W_prog_11_method_11_code_0 1 rfl rfl rfl
theorem d_11_11_4 : decode prog_11_method_11_code 4 = .ok (.iload_n 2, 1) := D_28 W_prog_11_method_11_code_0 4 rfl rfl
theorem d_11_11_5 : decode prog_11_method_11_code 5 = .ok (.baload, 1) := D_51 W_prog_11_method_11_code_0 5 rfl rfl
theorem d_11_11_6 : decode prog_11_method_11_code 6 = .ok (.ifCond .eq 23, 3) := D_153 W_prog_11_method_11_code_0 6 rfl rfl rfl
theorem d_11_11_9 : decode prog_11_method_11_code 9 = .ok (.aload_n 0, 1) := D_42 W_prog_11_method_11_code_0 9 rfl rfl
theorem d_11_11_10 : decode prog_11_method_11_code 10 = .ok (.getfield 27, 3) := D_180 W_prog_11_method_11_code_0 10 rfl rfl rfl
theorem d_11_11_13 : decode prog_11_method_11_code 13 = .ok (.iload_n 2, 1) := D_28 W_prog_11_method_11_code_0 13 rfl rfl
theorem d_11_11_14 : decode prog_11_method_11_code 14 = .ok (.iaload, 1) := D_46 W_prog_11_method_11_code_0 14 rfl rfl
theorem d_11_11_15 : decode prog_11_method_11_code 15 = .ok (.iconst (-1), 1) := D_2 W_prog_11_method_11_code_0 15 rfl rfl
theorem d_11_11_16 : decode prog_11_method_11_code 16 = .ok (.if_icmp .eq 13, 3) := D_159 W_prog_11_method_11_code_0 16 rfl rfl rfl
theorem d_11_11_19 : decode prog_11_method_11_code 19 = .ok (.aload_n 0, 1) := D_42 W_prog_11_method_11_code_0 19 rfl rfl
theorem d_11_11_20 : decode prog_11_method_11_code 20 = .ok (.getfield 33, 3) := D_180 W_prog_11_method_11_code_0 20 rfl rfl rfl
theorem d_11_11_23 : decode prog_11_method_11_code 23 = .ok (.iload_n 2, 1) := D_28 W_prog_11_method_11_code_0 23 rfl rfl
theorem d_11_11_24 : decode prog_11_method_11_code 24 = .ok (.iaload, 1) := D_46 W_prog_11_method_11_code_0 24 rfl rfl
theorem d_11_11_25 : decode prog_11_method_11_code 25 = .ok (.iconst (-1), 1) := D_2 W_prog_11_method_11_code_0 25 rfl rfl
theorem d_11_11_26 : decode prog_11_method_11_code 26 = .ok (.if_icmp .ne 5, 3) := D_160 W_prog_11_method_11_code_0 26 rfl rfl rfl
theorem d_11_11_31 : decode prog_11_method_11_code 31 = .ok (.aload_n 0, 1) := D_42 W_prog_11_method_11_code_0 31 rfl rfl
theorem W_prog_11_method_11_code_32 : chW prog_11_method_11_code 32 [180, 0, 23, 28, 46, 42, 180, 0, 30, 28, 46, 100, 184, 0, 127, 62, 27, 8, 160, 0, 15, 29, 16, 7, 164, 0, 7, 4, 167, 0, 4, 3, 172, 42, 180, 0] := chW_of (by decide +kernel)
theorem d_11_11_32 : decode prog_11_method_11_code 32 = .ok (.getfield 23, 3) := D_180 W_prog_11_method_11_code_32 0 rfl rfl rfl
theorem d_11_11_35 : decode prog_11_method_11_code 35 = .ok (.iload_n 2, 1) := D_28 W_prog_11_method_11_code_32 3 rfl rfl
theorem d_11_11_36 : decode prog_11_method_11_code 36 = .ok (.iaload, 1) := D_46 W_prog_11_method_11_code_32 4 rfl rfl
theorem d_11_11_37 : decode prog_11_method_11_code 37 = .ok (.aload_n 0, 1) := D_42 W_prog_11_method_11_code_32 5 rfl rfl
theorem d_11_11_38 : decode prog_11_method_11_code 38 = .ok (.getfield 30, 3) := D_180 W_prog_11_method_11_code_32 6 rfl rfl rfl
theorem d_11_11_41 : decode prog_11_method_11_code 41 = .ok (.iload_n 2, 1) := D_28 W_prog_11_method_11_code_32 9 rfl rfl
theorem d_11_11_42 : decode prog_11_method_11_code 42 = .ok (.iaload, 1) := D_46 W_prog_11_method_11_code_32 10 rfl rfl
theorem d_11_11_43 : decode prog_11_method_11_code 43 = .ok (.isub, 1) := D_100 W_prog_11_method_11_code_32 11 rfl rfl
theorem d_11_11_44 : decode prog_11_method_11_code 44 = .ok (.invokestatic 127, 3) := D_184 W_prog_11_method_11_code_32 12 rfl rfl rfl
theorem d_11_11_47 : decode prog_11_method_11_code 47 = .ok (.istore_n 3, 1) := D_62 W_prog_11_method_11_code_32 15 rfl rfl
theorem d_11_11_48 : decode prog_11_method_11_code 48 = .ok (.iload_n 1, 1) := D_27 W_prog_11_method_11_code_32 16 rfl rfl
theorem d_11_11_49 : decode prog_11_method_11_code 49 = .ok (.iconst 5, 1) := D_8 W_prog_11_method_11_code_32 17 rfl rfl
theorem d_11_11_50 : decode prog_11_method_11_code 50 = .ok (.if_icmp .ne 15, 3) := D_160 W_prog_11_method_11_code_32 18 rfl rfl rfl
theorem W_prog_11_method_11_code_64 : chW prog_11_method_11_code 64 [172, 42, 180, 0, 23, 28, 46, 42, 180, 0, 30, 28, 46, 164, 0, 19, 42, 180, 0, 27, 28, 46, 42, 180, 0, 33, 28, 46, 100, 167, 0, 16, 42, 180, 0, 33] := chW_of (by decide +kernel)
theorem d_11_11_65 : decode prog_11_method_11_code 65 = .ok (.aload_n 0, 1) := D_42 W_prog_11_method_11_code_64 1 rfl rfl
theorem d_11_11_66 : decode prog_11_method_11_code 66 = .ok (.getfield 23, 3) := D_180 W_prog_11_method_11_code_64 2 rfl rfl rfl
theorem d_11_11_69 : decode prog_11_method_11_code 69 = .ok (.iload_n 2, 1) := D_28 W_prog_11_method_11_code_64 5 rfl rfl
theorem d_11_11_70 : decode prog_11_method_11_code 70 = .ok (.iaload, 1) := D_46 W_prog_11_method_11_code_64 6 rfl rfl
theorem d_11_11_71 : decode prog_11_method_11_code 71 = .ok (.aload_n 0, 1) := D_42 W_prog_11_method_11_code_64 7 rfl rfl
theorem d_11_11_72 : decode prog_11_method_11_code 72 = .ok (.getfield 30, 3) := D_180 W_prog_11_method_11_code_64 8 rfl rfl rfl
theorem d_11_11_75 : decode prog_11_method_11_code 75 = .ok (.iload_n 2, 1) := D_28 W_prog_11_method_11_code_64 11 rfl rfl
theorem d_11_11_76 : decode prog_11_method_11_code 76 = .ok (.iaload, 1) := D_46 W_prog_11_method_11_code_64 12 rfl rfl
theorem d_11_11_77 : decode prog_11_method_11_code 77 = .ok (.if_icmp .le 19, 3) := D_164 W_prog_11_method_11_code_64 13 rfl rfl rfl
theorem W_prog_11_method_11_code_96 : chW prog_11_method_11_code 96 [42, 180, 0, 33, 28, 46, 42, 180, 0, 27, 28, 46, 100, 54, 4, 29, 154, 0, 11, 21, 4, 184, 0, 127, 167, 0, 5, 21, 4, 54, 5, 21, 5, 16, 12, 184] := chW_of (by decide +kernel)
theorem d_11_11_96 : decode prog_11_method_11_code 96 = .ok (.aload_n 0, 1) := D_42 W_prog_11_method_11_code_96 0 rfl rfl
theorem d_11_11_97 : decode prog_11_method_11_code 97 = .ok (.getfield 33, 3) := D_180 W_prog_11_method_11_code_96 1 rfl rfl rfl
theorem d_11_11_100 : decode prog_11_method_11_code 100 = .ok (.iload_n 2, 1) := D_28 W_prog_11_method_11_code_96 4 rfl rfl
theorem d_11_11_101 : decode prog_11_method_11_code 101 = .ok (.iaload, 1) := D_46 W_prog_11_method_11_code_96 5 rfl rfl
theorem d_11_11_102 : decode prog_11_method_11_code 102 = .ok (.aload_n 0, 1) := D_42 W_prog_11_method_11_code_96 6 rfl rfl
theorem d_11_11_103 : decode prog_11_method_11_code 103 = .ok (.getfield 27, 3) := D_180 W_prog_11_method_11_code_96 7 rfl rfl rfl
theorem d_11_11_106 : decode prog_11_method_11_code 106 = .ok (.iload_n 2, 1) := D_28 W_prog_11_method_11_code_96 10 rfl rfl
theorem d_11_11_107 : decode prog_11_method_11_code 107 = .ok (.iaload, 1) := D_46 W_prog_11_method_11_code_96 11 rfl rfl
theorem d_11_11_108 : decode prog_11_method_11_code 108 = .ok (.isub, 1) := D_100 W_prog_11_method_11_code_96 12 rfl rfl
theorem d_11_11_80 : decode prog_11_method_11_code 80 = .ok (.aload_n 0, 1) := D_42 W_prog_11_method_11_code_64 16 rfl rfl
theorem d_11_11_81 : decode prog_11_method_11_code 81 = .ok (.getfield 27, 3) := D_180 W_prog_11_method_11_code_64 17 rfl rfl rfl
theorem d_11_11_84 : decode prog_11_method_11_code 84 = .ok (.iload_n 2, 1) := D_28 W_prog_11_method_11_code_64 20 rfl rfl
theorem d_11_11_85 : decode prog_11_method_11_code 85 = .ok (.iaload, 1) := D_46 W_prog_11_method_11_code_64 21 rfl rfl
theorem d_11_11_86 : decode prog_11_method_11_code 86 = .ok (.aload_n 0, 1) := D_42 W_prog_11_method_11_code_64 22 rfl rfl
theorem d_11_11_87 : decode prog_11_method_11_code 87 = .ok (.getfield 33, 3) := D_180 W_prog_11_method_11_code_64 23 rfl rfl rfl
theorem d_11_11_90 : decode prog_11_method_11_code 90 = .ok (.iload_n 2, 1) := D_28 W_prog_11_method_11_code_64 26 rfl rfl
theorem d_11_11_91 : decode prog_11_method_11_code 91 = .ok (.iaload, 1) := D_46 W_prog_11_method_11_code_64 27 rfl rfl
theorem d_11_11_92 : decode prog_11_method_11_code 92 = .ok (.isub, 1) := D_100 W_prog_11_method_11_code_64 28 rfl rfl
theorem d_11_11_93 : decode prog_11_method_11_code 93 = .ok (.goto 16, 3) := D_167 W_prog_11_method_11_code_64 29 rfl rfl rfl
theorem d_11_11_53 : decode prog_11_method_11_code 53 = .ok (.iload_n 3, 1) := D_29 W_prog_11_method_11_code_32 21 rfl rfl
theorem d_11_11_54 : decode prog_11_method_11_code 54 = .ok (.bipush 7, 2) := D_16 W_prog_11_method_11_code_32 22 rfl rfl rfl
theorem d_11_11_56 : decode prog_11_method_11_code 56 = .ok (.if_icmp .le 7, 3) := D_164 W_prog_11_method_11_code_32 24 rfl rfl rfl
theorem d_11_11_63 : decode prog_11_method_11_code 63 = .ok (.iconst 0, 1) := D_3 W_prog_11_method_11_code_32 31 rfl rfl
theorem d_11_11_59 : decode prog_11_method_11_code 59 = .ok (.iconst 1, 1) := D_4 W_prog_11_method_11_code_32 27 rfl rfl
theorem d_11_11_60 : decode prog_11_method_11_code 60 = .ok (.goto 4, 3) := D_167 W_prog_11_method_11_code_32 28 rfl rfl rfl
theorem d_11_11_29 : decode prog_11_method_11_code 29 = .ok (.iconst 0, 1) := D_3 W_prog_11_method_11_code_0 29 rfl rfl
theorem d_11_11_30 : decode prog_11_method_11_code 30 = .ok (.ireturn, 1) := D_172 W_prog_11_method_11_code_0 30 rfl rfl
theorem d_11_11_64 : decode prog_11_method_11_code 64 = .ok (.ireturn, 1) := D_172 W_prog_11_method_11_code_64 0 rfl rfl
theorem d_11_11_109 : decode prog_11_method_11_code 109 = .ok (.istore 4, 2) := D_54 W_prog_11_method_11_code_96 13 rfl rfl
theorem d_11_11_111 : decode prog_11_method_11_code 111 = .ok (.iload_n 3, 1) := D_29 W_prog_11_method_11_code_96 15 rfl rfl
theorem d_11_11_112 : decode prog_11_method_11_code 112 = .ok (.ifCond .ne 11, 3) := D_154 W_prog_11_method_11_code_96 16 rfl rfl rfl
theorem d_11_11_123 : decode prog_11_method_11_code 123 = .ok (.iload 4, 2) := D_21 W_prog_11_method_11_code_96 27 rfl rfl
theorem d_11_11_115 : decode prog_11_method_11_code 115 = .ok (.iload 4, 2) := D_21 W_prog_11_method_11_code_96 19 rfl rfl
theorem d_11_11_117 : decode prog_11_method_11_code 117 = .ok (.invokestatic 127, 3) := D_184 W_prog_11_method_11_code_96 21 rfl rfl rfl
theorem d_11_11_120 : decode prog_11_method_11_code 120 = .ok (.goto 5, 3) := D_167 W_prog_11_method_11_code_96 24 rfl rfl rfl
theorem d_11_11_125 : decode prog_11_method_11_code 125 = .ok (.istore 5, 2) := D_54 W_prog_11_method_11_code_96 29 rfl rfl
theorem d_11_11_127 : decode prog_11_method_11_code 127 = .ok (.iload 5, 2) := D_21 W_prog_11_method_11_code_96 31 rfl rfl
theorem W_prog_11_method_11_code_128 : chW prog_11_method_11_code 128 [5, 16, 12, 184, 0, 130, 54, 6, 21, 6, 178, 0, 133, 29, 16, 7, 112, 46, 161, 0, 16, 21, 6, 178, 0, 136, 29, 16, 7, 112, 46, 164, 0, 7, 4, 167] := chW_of (by decide +kernel)
theorem d_11_11_129 : decode prog_11_method_11_code 129 = .ok (.bipush 12, 2) := D_16 W_prog_11_method_11_code_128 1 rfl rfl rfl
theorem d_11_11_131 : decode prog_11_method_11_code 131 = .ok (.invokestatic 130, 3) := D_184 W_prog_11_method_11_code_128 3 rfl rfl rfl
theorem d_11_11_134 : decode prog_11_method_11_code 134 = .ok (.istore 6, 2) := D_54 W_prog_11_method_11_code_128 6 rfl rfl
theorem d_11_11_136 : decode prog_11_method_11_code 136 = .ok (.iload 6, 2) := D_21 W_prog_11_method_11_code_128 8 rfl rfl
theorem d_11_11_138 : decode prog_11_method_11_code 138 = .ok (.getstatic 133, 3) := D_178 W_prog_11_method_11_code_128 10 rfl rfl rfl
theorem d_11_11_141 : decode prog_11_method_11_code 141 = .ok (.iload_n 3, 1) := D_29 W_prog_11_method_11_code_128 13 rfl rfl
