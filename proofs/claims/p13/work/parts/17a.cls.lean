theorem k_2_128 : (Jvm.Cond.fieldLink "StaveHouse" (18 : Nat) "StaveHouse" "waiting" "[I") ∈ wAll := wA_2 (j := 128) rfl rfl
theorem k_1_42 : (Jvm.Cond.fieldLink "StaveHouse$ByteRow" (21 : Nat) "StaveHouse$ByteRow" "size" "I") ∈ wAll := wA_1 (j := 42) rfl rfl
theorem k_1_41 : (Jvm.Cond.fieldLink "StaveHouse$ByteRow" (15 : Nat) "StaveHouse$ByteRow" "bytes" "[I") ∈ wAll := wA_1 (j := 41) rfl rfl
theorem k_1_48 : (Jvm.Cond.fieldLink "StaveHouse$ByteRow" (25 : Nat) "StaveHouse$ByteRow" "full" "Z") ∈ wAll := wA_1 (j := 48) rfl rfl
theorem k_2_190 : (Jvm.Cond.fieldLink "StaveHouse$Piece" (17 : Nat) "StaveHouse$Piece" "partCount" "I") ∈ wAll := wA_2 (j := 190) rfl rfl
theorem k_2_195 : (Jvm.Cond.fieldLink "StaveHouse$Piece" (21 : Nat) "StaveHouse$Piece" "fifths" "I") ∈ wAll := wA_2 (j := 195) rfl rfl
theorem k_2_202 : (Jvm.Cond.fieldLink "StaveHouse$Piece" (24 : Nat) "StaveHouse$Piece" "minor" "I") ∈ wAll := wA_2 (j := 202) rfl rfl
theorem k_2_207 : (Jvm.Cond.fieldLink "StaveHouse$Piece" (27 : Nat) "StaveHouse$Piece" "above" "I") ∈ wAll := wA_2 (j := 207) rfl rfl
theorem k_2_212 : (Jvm.Cond.fieldLink "StaveHouse$Piece" (30 : Nat) "StaveHouse$Piece" "below" "I") ∈ wAll := wA_2 (j := 212) rfl rfl
theorem k_2_217 : (Jvm.Cond.fieldLink "StaveHouse$Piece" (33 : Nat) "StaveHouse$Piece" "tempo" "I") ∈ wAll := wA_2 (j := 217) rfl rfl
theorem k_2_222 : (Jvm.Cond.fieldLink "StaveHouse$Piece" (36 : Nat) "StaveHouse$Piece" "bars" "I") ∈ wAll := wA_2 (j := 222) rfl rfl
theorem k_2_228 : (Jvm.Cond.fieldLink "StaveHouse$Piece" (39 : Nat) "StaveHouse$Piece" "performed" "Z") ∈ wAll := wA_2 (j := 228) rfl rfl
theorem k_2_230 : (Jvm.Cond.fieldLink "StaveHouse$Piece" (43 : Nat) "StaveHouse$Piece" "sounded" "Z") ∈ wAll := wA_2 (j := 230) rfl rfl
theorem k_2_232 : (Jvm.Cond.fieldLink "StaveHouse$Piece" (46 : Nat) "StaveHouse$Piece" "studied" "Z") ∈ wAll := wA_2 (j := 232) rfl rfl
theorem k_2_224 : (Jvm.Cond.fieldLink "StaveHouse$Piece" (49 : Nat) "StaveHouse$Piece" "layout" "LStaveHouse$Layout;") ∈ wAll := wA_2 (j := 224) rfl rfl
theorem k_6_216 : (Jvm.Cond.fieldLink "StaveHouse$Piece" (53 : Nat) "StaveHouse$Layout" "lineCount" "I") ∈ wAll := wA_6 (j := 216) rfl rfl
theorem k_3_34 : (Jvm.Cond.methodLink "StaveHouse$Tokens" (28 : Nat) ({ cls := "StaveHouse$ByteRow", name := "at", desc := "(I)I" } : Jvm.MethodName)) ∈ wAll := wA_3 (j := 34) rfl rfl
theorem k_3_35 : (Jvm.Cond.instanceMethod ({ cls := "StaveHouse$ByteRow", name := "at", desc := "(I)I" } : Jvm.MethodName)) ∈ wAll := wA_3 (j := 35) rfl rfl
theorem k_3_36 : (Jvm.Cond.selects "StaveHouse$ByteRow" ({ cls := "StaveHouse$ByteRow", name := "at", desc := "(I)I" } : Jvm.MethodName) ({ cls := "StaveHouse$ByteRow", name := "at", desc := "(I)I" } : Jvm.MethodName)) ∈ wAll := wA_3 (j := 36) rfl rfl
theorem k_1_2 : (Jvm.Cond.initialized "StaveHouse$ByteRow") ∈ wAll := wA_1 (j := 2) rfl rfl
theorem k_3_37 : (Jvm.Cond.code ({ cls := "StaveHouse$ByteRow", name := "at", desc := "(I)I" } : Jvm.MethodName) prog_2_method_3_code (2 : Nat) (Option.some Jvm.ClassFile.FieldType.int)) ∈ wAll := wA_3 (j := 37) rfl rfl
theorem k_1_82 : (Jvm.Cond.fieldLink "StaveHouse$Tokens" (9 : Nat) "StaveHouse$Tokens" "kinds" "[I") ∈ wAll := wA_1 (j := 82) rfl rfl
theorem k_1_84 : (Jvm.Cond.fieldLink "StaveHouse$Tokens" (18 : Nat) "StaveHouse$Tokens" "values" "[J") ∈ wAll := wA_1 (j := 84) rfl rfl
theorem k_3_122 : (Jvm.Cond.methodLink "java/lang/String" (1062 : Nat) ({ cls := "jdk/internal/util/Preconditions", name := "checkFromToIndex", desc := "(IIILjava/util/function/BiFunction;)I" } : Jvm.MethodName)) ∈ wAll := wA_3 (j := 122) rfl rfl
theorem k_3_123 : (Jvm.Cond.static ({ cls := "jdk/internal/util/Preconditions", name := "checkFromToIndex", desc := "(IIILjava/util/function/BiFunction;)I" } : Jvm.MethodName)) ∈ wAll := wA_3 (j := 123) rfl rfl
theorem k_3_124 : (Jvm.Cond.code ({ cls := "jdk/internal/util/Preconditions", name := "checkFromToIndex", desc := "(IIILjava/util/function/BiFunction;)I" } : Jvm.MethodName) prog_24_method_12_code (4 : Nat) (Option.some Jvm.ClassFile.FieldType.int)) ∈ wAll := wA_3 (j := 124) rfl rfl
theorem k_1_85 : (Jvm.Cond.fieldLink "StaveHouse$Tokens" (54 : Nat) "StaveHouse$Tokens" "next" "I") ∈ wAll := wA_1 (j := 85) rfl rfl
theorem k_1_73 : (Jvm.Cond.fieldLink "StaveHouse$Tokens" (60 : Nat) "StaveHouse$Tokens" "kind" "I") ∈ wAll := wA_1 (j := 73) rfl rfl
theorem k_1_83 : (Jvm.Cond.fieldLink "StaveHouse$Tokens" (15 : Nat) "StaveHouse$Tokens" "places" "[I") ∈ wAll := wA_1 (j := 83) rfl rfl
theorem k_1_74 : (Jvm.Cond.fieldLink "StaveHouse$Tokens" (63 : Nat) "StaveHouse$Tokens" "place" "I") ∈ wAll := wA_1 (j := 74) rfl rfl
theorem k_1_76 : (Jvm.Cond.fieldLink "StaveHouse$Tokens" (66 : Nat) "StaveHouse$Tokens" "value" "J") ∈ wAll := wA_1 (j := 76) rfl rfl
theorem k_1_78 : (Jvm.Cond.fieldLink "StaveHouse$Tokens" (70 : Nat) "StaveHouse$Tokens" "step" "I") ∈ wAll := wA_1 (j := 78) rfl rfl
theorem k_1_80 : (Jvm.Cond.fieldLink "StaveHouse$Tokens" (73 : Nat) "StaveHouse$Tokens" "alteration" "I") ∈ wAll := wA_1 (j := 80) rfl rfl
theorem k_1_128 : (Jvm.Cond.fieldLink "StaveHouse$Parser" (48 : Nat) "StaveHouse$Parser" "token" "LStaveHouse$Tokens;") ∈ wAll := wA_1 (j := 128) rfl rfl
theorem k_3_168 : (Jvm.Cond.constantLong "StaveHouse$Parser" (116 : Nat) (7038329 : Int64)) ∈ wAll := wA_3 (j := 168) rfl rfl
theorem k_3_160 : (Jvm.Cond.methodLink "StaveHouse$Parser" (88 : Nat) ({ cls := "StaveHouse$Tokens", name := "isWord", desc := "(J)Z" } : Jvm.MethodName)) ∈ wAll := wA_3 (j := 160) rfl rfl
theorem k_3_161 : (Jvm.Cond.instanceMethod ({ cls := "StaveHouse$Tokens", name := "isWord", desc := "(J)Z" } : Jvm.MethodName)) ∈ wAll := wA_3 (j := 161) rfl rfl
theorem k_3_162 : (Jvm.Cond.selects "StaveHouse$Tokens" ({ cls := "StaveHouse$Tokens", name := "isWord", desc := "(J)Z" } : Jvm.MethodName) ({ cls := "StaveHouse$Tokens", name := "isWord", desc := "(J)Z" } : Jvm.MethodName)) ∈ wAll := wA_3 (j := 162) rfl rfl
theorem k_1_5 : (Jvm.Cond.initialized "StaveHouse$Tokens") ∈ wAll := wA_1 (j := 5) rfl rfl
theorem k_3_163 : (Jvm.Cond.code ({ cls := "StaveHouse$Tokens", name := "isWord", desc := "(J)Z" } : Jvm.MethodName) prog_12_method_5_code (3 : Nat) (Option.some Jvm.ClassFile.FieldType.boolean)) ∈ wAll := wA_3 (j := 163) rfl rfl
theorem k_3_169 : (Jvm.Cond.constantLong "StaveHouse$Parser" (118 : Nat) (1953066341 : Int64)) ∈ wAll := wA_3 (j := 169) rfl rfl
theorem k_3_170 : (Jvm.Cond.constantLong "StaveHouse$Parser" (120 : Nat) (499917877359 : Int64)) ∈ wAll := wA_3 (j := 170) rfl rfl
theorem k_1_131 : (Jvm.Cond.fieldLink "StaveHouse$Parser" (59 : Nat) "StaveHouse$Parser" "items" "I") ∈ wAll := wA_1 (j := 131) rfl rfl
theorem k_3_179 : (Jvm.Cond.methodLink "StaveHouse$Parser" (229 : Nat) ({ cls := "java/lang/Math", name := "min", desc := "(II)I" } : Jvm.MethodName)) ∈ wAll := wA_3 (j := 179) rfl rfl
theorem k_3_97 : (Jvm.Cond.static ({ cls := "java/lang/Math", name := "min", desc := "(II)I" } : Jvm.MethodName)) ∈ wAll := wA_3 (j := 97) rfl rfl
theorem k_1_3 : (Jvm.Cond.initialized "java/lang/Math") ∈ wAll := wA_1 (j := 3) rfl rfl
theorem k_3_98 : (Jvm.Cond.code ({ cls := "java/lang/Math", name := "min", desc := "(II)I" } : Jvm.MethodName) prog_20_method_69_code (2 : Nat) (Option.some Jvm.ClassFile.FieldType.int)) ∈ wAll := wA_3 (j := 98) rfl rfl
theorem k_1_106 : (Jvm.Cond.fieldLink "StaveHouse$Parser" (9 : Nat) "StaveHouse$Parser" "kind" "[I") ∈ wAll := wA_1 (j := 106) rfl rfl
theorem k_1_108 : (Jvm.Cond.fieldLink "StaveHouse$Parser" (15 : Nat) "StaveHouse$Parser" "place" "[I") ∈ wAll := wA_1 (j := 108) rfl rfl
theorem k_1_75 : (Jvm.Cond.fieldLink "StaveHouse$Parser" (110 : Nat) "StaveHouse$Tokens" "place" "I") ∈ wAll := wA_1 (j := 75) rfl rfl
theorem k_1_110 : (Jvm.Cond.fieldLink "StaveHouse$Parser" (18 : Nat) "StaveHouse$Parser" "first" "[I") ∈ wAll := wA_1 (j := 110) rfl rfl
theorem k_1_112 : (Jvm.Cond.fieldLink "StaveHouse$Parser" (21 : Nat) "StaveHouse$Parser" "second" "[I") ∈ wAll := wA_1 (j := 112) rfl rfl
theorem k_1_114 : (Jvm.Cond.fieldLink "StaveHouse$Parser" (24 : Nat) "StaveHouse$Parser" "child" "[I") ∈ wAll := wA_1 (j := 114) rfl rfl
theorem k_1_116 : (Jvm.Cond.fieldLink "StaveHouse$Parser" (27 : Nat) "StaveHouse$Parser" "next" "[I") ∈ wAll := wA_1 (j := 116) rfl rfl
theorem k_1_118 : (Jvm.Cond.fieldLink "StaveHouse$Parser" (30 : Nat) "StaveHouse$Parser" "count" "[I") ∈ wAll := wA_1 (j := 118) rfl rfl
theorem k_1_120 : (Jvm.Cond.fieldLink "StaveHouse$Parser" (33 : Nat) "StaveHouse$Parser" "marks" "[I") ∈ wAll := wA_1 (j := 120) rfl rfl
theorem k_1_77 : (Jvm.Cond.fieldLink "StaveHouse$Parser" (173 : Nat) "StaveHouse$Tokens" "value" "J") ∈ wAll := wA_1 (j := 77) rfl rfl
theorem k_1_72 : (Jvm.Cond.fieldLink "StaveHouse$Parser" (108 : Nat) "StaveHouse$Tokens" "kind" "I") ∈ wAll := wA_1 (j := 72) rfl rfl
theorem k_1_138 : (Jvm.Cond.fieldLink "StaveHouse$Parser" (75 : Nat) "StaveHouse$Parser" "wrong" "I") ∈ wAll := wA_1 (j := 138) rfl rfl
theorem k_1_133 : (Jvm.Cond.fieldLink "StaveHouse$Parser" (66 : Nat) "StaveHouse$Parser" "lets" "I") ∈ wAll := wA_1 (j := 133) rfl rfl
theorem k_1_129 : (Jvm.Cond.fieldLink "StaveHouse$Parser" (52 : Nat) "StaveHouse$Parser" "letNames" "[J") ∈ wAll := wA_1 (j := 129) rfl rfl
theorem k_1_130 : (Jvm.Cond.fieldLink "StaveHouse$Parser" (56 : Nat) "StaveHouse$Parser" "letItems" "[I") ∈ wAll := wA_1 (j := 130) rfl rfl
theorem k_3_208 : (Jvm.Cond.methodLink "StaveHouse$Parser" (153 : Nat) ({ cls := "StaveHouse$Tokens", name := "isSign", desc := "(C)Z" } : Jvm.MethodName)) ∈ wAll := wA_3 (j := 208) rfl rfl
theorem k_3_209 : (Jvm.Cond.instanceMethod ({ cls := "StaveHouse$Tokens", name := "isSign", desc := "(C)Z" } : Jvm.MethodName)) ∈ wAll := wA_3 (j := 209) rfl rfl
theorem k_3_210 : (Jvm.Cond.selects "StaveHouse$Tokens" ({ cls := "StaveHouse$Tokens", name := "isSign", desc := "(C)Z" } : Jvm.MethodName) ({ cls := "StaveHouse$Tokens", name := "isSign", desc := "(C)Z" } : Jvm.MethodName)) ∈ wAll := wA_3 (j := 210) rfl rfl
theorem k_3_211 : (Jvm.Cond.code ({ cls := "StaveHouse$Tokens", name := "isSign", desc := "(C)Z" } : Jvm.MethodName) prog_12_method_4_code (2 : Nat) (Option.some Jvm.ClassFile.FieldType.boolean)) ∈ wAll := wA_3 (j := 211) rfl rfl
theorem k_1_135 : (Jvm.Cond.fieldLink "StaveHouse$Parser" (72 : Nat) "StaveHouse$Parser" "depth" "I") ∈ wAll := wA_1 (j := 135) rfl rfl
theorem k_3_180 : (Jvm.Cond.methodLink "StaveHouse$Parser" (122 : Nat) ({ cls := "StaveHouse$Tokens", name := "advance", desc := "()V" } : Jvm.MethodName)) ∈ wAll := wA_3 (j := 180) rfl rfl
theorem k_3_152 : (Jvm.Cond.instanceMethod ({ cls := "StaveHouse$Tokens", name := "advance", desc := "()V" } : Jvm.MethodName)) ∈ wAll := wA_3 (j := 152) rfl rfl
theorem k_3_153 : (Jvm.Cond.selects "StaveHouse$Tokens" ({ cls := "StaveHouse$Tokens", name := "advance", desc := "()V" } : Jvm.MethodName) ({ cls := "StaveHouse$Tokens", name := "advance", desc := "()V" } : Jvm.MethodName)) ∈ wAll := wA_3 (j := 153) rfl rfl
theorem k_3_154 : (Jvm.Cond.code ({ cls := "StaveHouse$Tokens", name := "advance", desc := "()V" } : Jvm.MethodName) prog_12_method_3_code (1 : Nat) (Option.none : Option Jvm.ClassFile.FieldType)) ∈ wAll := wA_3 (j := 154) rfl rfl
theorem k_3_196 : (Jvm.Cond.methodLink "StaveHouse$Parser" (101 : Nat) ({ cls := "StaveHouse$Parser", name := "refuse", desc := "(I)Z" } : Jvm.MethodName)) ∈ wAll := wA_3 (j := 196) rfl rfl
theorem k_3_198 : (Jvm.Cond.instanceMethod ({ cls := "StaveHouse$Parser", name := "refuse", desc := "(I)Z" } : Jvm.MethodName)) ∈ wAll := wA_3 (j := 198) rfl rfl
theorem ks_7 : (Jvm.Cond.selects "StaveHouse$Parser" ({ cls := "StaveHouse$Parser", name := "refuse", desc := "(I)Z" } : Jvm.MethodName) ({ cls := "StaveHouse$Parser", name := "refuse", desc := "(I)Z" } : Jvm.MethodName)) ∈ wAll := wA_s (j := 7) rfl rfl
theorem k_1_4 : (Jvm.Cond.initialized "StaveHouse$Parser") ∈ wAll := wA_1 (j := 4) rfl rfl
theorem k_3_199 : (Jvm.Cond.code ({ cls := "StaveHouse$Parser", name := "refuse", desc := "(I)Z" } : Jvm.MethodName) prog_5_method_3_code (2 : Nat) (Option.some Jvm.ClassFile.FieldType.boolean)) ∈ wAll := wA_3 (j := 199) rfl rfl
theorem k_3_192 : (Jvm.Cond.fieldLink "StaveHouse$Parser" (218 : Nat) "StaveHouse$Parser" "BEGINNERS" "[J") ∈ wAll := wA_3 (j := 192) rfl rfl
theorem k_3_187 : (Jvm.Cond.methodLink "StaveHouse$Parser" (193 : Nat) ({ cls := "StaveHouse$Parser", name := "indexOf", desc := "([JJ)I" } : Jvm.MethodName)) ∈ wAll := wA_3 (j := 187) rfl rfl
theorem k_3_188 : (Jvm.Cond.static ({ cls := "StaveHouse$Parser", name := "indexOf", desc := "([JJ)I" } : Jvm.MethodName)) ∈ wAll := wA_3 (j := 188) rfl rfl
theorem k_3_189 : (Jvm.Cond.code ({ cls := "StaveHouse$Parser", name := "indexOf", desc := "([JJ)I" } : Jvm.MethodName) prog_5_method_13_code (4 : Nat) (Option.some Jvm.ClassFile.FieldType.int)) ∈ wAll := wA_3 (j := 189) rfl rfl
theorem k_3_228 : (Jvm.Cond.constantLong "StaveHouse$Parser" (250 : Nat) (114 : Int64)) ∈ wAll := wA_3 (j := 228) rfl rfl
theorem k_1_132 : (Jvm.Cond.fieldLink "StaveHouse$Parser" (63 : Nat) "StaveHouse$Parser" "pitches" "I") ∈ wAll := wA_1 (j := 132) rfl rfl
theorem k_1_122 : (Jvm.Cond.fieldLink "StaveHouse$Parser" (36 : Nat) "StaveHouse$Parser" "pitchSteps" "[I") ∈ wAll := wA_1 (j := 122) rfl rfl
theorem k_1_79 : (Jvm.Cond.fieldLink "StaveHouse$Parser" (290 : Nat) "StaveHouse$Tokens" "step" "I") ∈ wAll := wA_1 (j := 79) rfl rfl
theorem k_1_124 : (Jvm.Cond.fieldLink "StaveHouse$Parser" (39 : Nat) "StaveHouse$Parser" "pitchAlterations" "[I") ∈ wAll := wA_1 (j := 124) rfl rfl
theorem k_1_81 : (Jvm.Cond.fieldLink "StaveHouse$Parser" (293 : Nat) "StaveHouse$Tokens" "alteration" "I") ∈ wAll := wA_1 (j := 81) rfl rfl
theorem k_1_126 : (Jvm.Cond.fieldLink "StaveHouse$Parser" (42 : Nat) "StaveHouse$Parser" "pitchPlaces" "[I") ∈ wAll := wA_1 (j := 126) rfl rfl
theorem k_4_16 : (Jvm.Cond.constantLong "java/lang/Long" (314 : Nat) (6148914691236517205 : Int64)) ∈ wAll := wA_4 (j := 16) rfl rfl
theorem k_4_17 : (Jvm.Cond.constantLong "java/lang/Long" (316 : Nat) (3689348814741910323 : Int64)) ∈ wAll := wA_4 (j := 17) rfl rfl
theorem k_4_18 : (Jvm.Cond.constantLong "java/lang/Long" (318 : Nat) (1085102592571150095 : Int64)) ∈ wAll := wA_4 (j := 18) rfl rfl
theorem k_3_190 : (Jvm.Cond.fieldLink "StaveHouse$Parser" (215 : Nat) "StaveHouse$Parser" "LOUDS" "[J") ∈ wAll := wA_3 (j := 190) rfl rfl
theorem k_1_50 : (Jvm.Cond.laysFinal "StaveHouse$ByteRow" "StaveHouse$ByteRow" "bytes" "[I") ∈ wAll := wA_1 (j := 50) rfl rfl
theorem k_1_52 : (Jvm.Cond.lays "StaveHouse$ByteRow" "StaveHouse$ByteRow" "size" "I") ∈ wAll := wA_1 (j := 52) rfl rfl
theorem k_1_54 : (Jvm.Cond.lays "StaveHouse$ByteRow" "StaveHouse$ByteRow" "full" "Z") ∈ wAll := wA_1 (j := 54) rfl rfl
theorem k_6_230 : (Jvm.Cond.lays "StaveHouse$Layout" "StaveHouse$Layout" "lineCount" "I") ∈ wAll := wA_6 (j := 230) rfl rfl
theorem k_6_232 : (Jvm.Cond.laysFinal "StaveHouse$Layout" "StaveHouse$Layout" "columnPlaces" "[J") ∈ wAll := wA_6 (j := 232) rfl rfl
theorem k_6_234 : (Jvm.Cond.laysFinal "StaveHouse$Layout" "StaveHouse$Layout" "columnWidths" "[I") ∈ wAll := wA_6 (j := 234) rfl rfl
theorem k_6_236 : (Jvm.Cond.laysFinal "StaveHouse$Layout" "StaveHouse$Layout" "columnXs" "[I") ∈ wAll := wA_6 (j := 236) rfl rfl
theorem k_6_238 : (Jvm.Cond.lays "StaveHouse$Layout" "StaveHouse$Layout" "columns" "I") ∈ wAll := wA_6 (j := 238) rfl rfl
theorem k_7_0 : (Jvm.Cond.laysFinal "StaveHouse$Layout" "StaveHouse$Layout" "barFirsts" "[I") ∈ wAll := wA_7 (j := 0) rfl rfl
theorem k_7_2 : (Jvm.Cond.laysFinal "StaveHouse$Layout" "StaveHouse$Layout" "barWidths" "[I") ∈ wAll := wA_7 (j := 2) rfl rfl
theorem k_7_4 : (Jvm.Cond.laysFinal "StaveHouse$Layout" "StaveHouse$Layout" "lineFirsts" "[I") ∈ wAll := wA_7 (j := 4) rfl rfl
theorem k_7_6 : (Jvm.Cond.laysFinal "StaveHouse$Layout" "StaveHouse$Layout" "lineWidths" "[I") ∈ wAll := wA_7 (j := 6) rfl rfl
theorem k_7_8 : (Jvm.Cond.laysFinal "StaveHouse$Layout" "StaveHouse$Layout" "linePrices" "[J") ∈ wAll := wA_7 (j := 8) rfl rfl
theorem k_7_10 : (Jvm.Cond.laysFinal "StaveHouse$Layout" "StaveHouse$Layout" "best" "[J") ∈ wAll := wA_7 (j := 10) rfl rfl
theorem k_7_12 : (Jvm.Cond.laysFinal "StaveHouse$Layout" "StaveHouse$Layout" "breaks" "[I") ∈ wAll := wA_7 (j := 12) rfl rfl
theorem k_7_14 : (Jvm.Cond.laysFinal "StaveHouse$Layout" "StaveHouse$Layout" "nexts" "[I") ∈ wAll := wA_7 (j := 14) rfl rfl
theorem k_1_139 : (Jvm.Cond.laysFinal "StaveHouse$Parser" "StaveHouse$Parser" "kind" "[I") ∈ wAll := wA_1 (j := 139) rfl rfl
theorem k_1_141 : (Jvm.Cond.laysFinal "StaveHouse$Parser" "StaveHouse$Parser" "place" "[I") ∈ wAll := wA_1 (j := 141) rfl rfl
theorem k_1_143 : (Jvm.Cond.laysFinal "StaveHouse$Parser" "StaveHouse$Parser" "first" "[I") ∈ wAll := wA_1 (j := 143) rfl rfl
theorem k_1_145 : (Jvm.Cond.laysFinal "StaveHouse$Parser" "StaveHouse$Parser" "second" "[I") ∈ wAll := wA_1 (j := 145) rfl rfl
theorem k_1_147 : (Jvm.Cond.laysFinal "StaveHouse$Parser" "StaveHouse$Parser" "child" "[I") ∈ wAll := wA_1 (j := 147) rfl rfl
theorem k_1_149 : (Jvm.Cond.laysFinal "StaveHouse$Parser" "StaveHouse$Parser" "next" "[I") ∈ wAll := wA_1 (j := 149) rfl rfl
theorem k_1_151 : (Jvm.Cond.laysFinal "StaveHouse$Parser" "StaveHouse$Parser" "count" "[I") ∈ wAll := wA_1 (j := 151) rfl rfl
theorem k_1_153 : (Jvm.Cond.laysFinal "StaveHouse$Parser" "StaveHouse$Parser" "marks" "[I") ∈ wAll := wA_1 (j := 153) rfl rfl
theorem k_1_155 : (Jvm.Cond.laysFinal "StaveHouse$Parser" "StaveHouse$Parser" "pitchSteps" "[I") ∈ wAll := wA_1 (j := 155) rfl rfl
theorem k_1_157 : (Jvm.Cond.laysFinal "StaveHouse$Parser" "StaveHouse$Parser" "pitchAlterations" "[I") ∈ wAll := wA_1 (j := 157) rfl rfl
theorem k_1_159 : (Jvm.Cond.laysFinal "StaveHouse$Parser" "StaveHouse$Parser" "pitchPlaces" "[I") ∈ wAll := wA_1 (j := 159) rfl rfl
theorem k_1_161 : (Jvm.Cond.laysFinal "StaveHouse$Parser" "StaveHouse$Parser" "token" "LStaveHouse$Tokens;") ∈ wAll := wA_1 (j := 161) rfl rfl
theorem k_1_163 : (Jvm.Cond.laysFinal "StaveHouse$Parser" "StaveHouse$Parser" "letNames" "[J") ∈ wAll := wA_1 (j := 163) rfl rfl
theorem k_1_165 : (Jvm.Cond.laysFinal "StaveHouse$Parser" "StaveHouse$Parser" "letItems" "[I") ∈ wAll := wA_1 (j := 165) rfl rfl
theorem k_1_167 : (Jvm.Cond.lays "StaveHouse$Parser" "StaveHouse$Parser" "items" "I") ∈ wAll := wA_1 (j := 167) rfl rfl
theorem k_1_169 : (Jvm.Cond.lays "StaveHouse$Parser" "StaveHouse$Parser" "pitches" "I") ∈ wAll := wA_1 (j := 169) rfl rfl
theorem k_1_171 : (Jvm.Cond.lays "StaveHouse$Parser" "StaveHouse$Parser" "lets" "I") ∈ wAll := wA_1 (j := 171) rfl rfl
theorem k_1_173 : (Jvm.Cond.lays "StaveHouse$Parser" "StaveHouse$Parser" "headsTold" "I") ∈ wAll := wA_1 (j := 173) rfl rfl
theorem k_1_175 : (Jvm.Cond.lays "StaveHouse$Parser" "StaveHouse$Parser" "depth" "I") ∈ wAll := wA_1 (j := 175) rfl rfl
theorem k_1_177 : (Jvm.Cond.lays "StaveHouse$Parser" "StaveHouse$Parser" "number" "I") ∈ wAll := wA_1 (j := 177) rfl rfl
theorem k_1_179 : (Jvm.Cond.lays "StaveHouse$Parser" "StaveHouse$Parser" "length" "I") ∈ wAll := wA_1 (j := 179) rfl rfl
theorem k_1_181 : (Jvm.Cond.lays "StaveHouse$Parser" "StaveHouse$Parser" "wrong" "I") ∈ wAll := wA_1 (j := 181) rfl rfl
theorem k_2_233 : (Jvm.Cond.laysFinal "StaveHouse$Piece" "StaveHouse$Piece" "parts" "[LStaveHouse$Part;") ∈ wAll := wA_2 (j := 233) rfl rfl
theorem k_2_235 : (Jvm.Cond.lays "StaveHouse$Piece" "StaveHouse$Piece" "partCount" "I") ∈ wAll := wA_2 (j := 235) rfl rfl
theorem k_2_237 : (Jvm.Cond.lays "StaveHouse$Piece" "StaveHouse$Piece" "fifths" "I") ∈ wAll := wA_2 (j := 237) rfl rfl
theorem k_2_239 : (Jvm.Cond.lays "StaveHouse$Piece" "StaveHouse$Piece" "minor" "I") ∈ wAll := wA_2 (j := 239) rfl rfl
theorem k_3_1 : (Jvm.Cond.lays "StaveHouse$Piece" "StaveHouse$Piece" "above" "I") ∈ wAll := wA_3 (j := 1) rfl rfl
theorem k_3_3 : (Jvm.Cond.lays "StaveHouse$Piece" "StaveHouse$Piece" "below" "I") ∈ wAll := wA_3 (j := 3) rfl rfl
theorem k_3_5 : (Jvm.Cond.lays "StaveHouse$Piece" "StaveHouse$Piece" "tempo" "I") ∈ wAll := wA_3 (j := 5) rfl rfl
theorem k_3_7 : (Jvm.Cond.lays "StaveHouse$Piece" "StaveHouse$Piece" "bars" "I") ∈ wAll := wA_3 (j := 7) rfl rfl
theorem k_3_9 : (Jvm.Cond.lays "StaveHouse$Piece" "StaveHouse$Piece" "layout" "LStaveHouse$Layout;") ∈ wAll := wA_3 (j := 9) rfl rfl
theorem k_3_11 : (Jvm.Cond.lays "StaveHouse$Piece" "StaveHouse$Piece" "performance" "LStaveHouse$Performance;") ∈ wAll := wA_3 (j := 11) rfl rfl
theorem k_3_13 : (Jvm.Cond.lays "StaveHouse$Piece" "StaveHouse$Piece" "performed" "Z") ∈ wAll := wA_3 (j := 13) rfl rfl
theorem k_3_15 : (Jvm.Cond.lays "StaveHouse$Piece" "StaveHouse$Piece" "sounded" "Z") ∈ wAll := wA_3 (j := 15) rfl rfl
theorem k_3_17 : (Jvm.Cond.lays "StaveHouse$Piece" "StaveHouse$Piece" "study" "LStaveHouse$Study;") ∈ wAll := wA_3 (j := 17) rfl rfl
theorem k_3_19 : (Jvm.Cond.lays "StaveHouse$Piece" "StaveHouse$Piece" "studied" "Z") ∈ wAll := wA_3 (j := 19) rfl rfl
theorem k_1_86 : (Jvm.Cond.lays "StaveHouse$Tokens" "StaveHouse$Tokens" "kind" "I") ∈ wAll := wA_1 (j := 86) rfl rfl
theorem k_1_88 : (Jvm.Cond.lays "StaveHouse$Tokens" "StaveHouse$Tokens" "place" "I") ∈ wAll := wA_1 (j := 88) rfl rfl
theorem k_1_90 : (Jvm.Cond.lays "StaveHouse$Tokens" "StaveHouse$Tokens" "value" "J") ∈ wAll := wA_1 (j := 90) rfl rfl
theorem k_1_92 : (Jvm.Cond.lays "StaveHouse$Tokens" "StaveHouse$Tokens" "step" "I") ∈ wAll := wA_1 (j := 92) rfl rfl
theorem k_1_94 : (Jvm.Cond.lays "StaveHouse$Tokens" "StaveHouse$Tokens" "alteration" "I") ∈ wAll := wA_1 (j := 94) rfl rfl
theorem k_1_96 : (Jvm.Cond.laysFinal "StaveHouse$Tokens" "StaveHouse$Tokens" "kinds" "[I") ∈ wAll := wA_1 (j := 96) rfl rfl
theorem k_1_98 : (Jvm.Cond.laysFinal "StaveHouse$Tokens" "StaveHouse$Tokens" "places" "[I") ∈ wAll := wA_1 (j := 98) rfl rfl
theorem k_1_100 : (Jvm.Cond.laysFinal "StaveHouse$Tokens" "StaveHouse$Tokens" "values" "[J") ∈ wAll := wA_1 (j := 100) rfl rfl
theorem k_1_102 : (Jvm.Cond.lays "StaveHouse$Tokens" "StaveHouse$Tokens" "next" "I") ∈ wAll := wA_1 (j := 102) rfl rfl
theorem k_2_137 : (Jvm.Cond.laysFinal "StaveHouse" "StaveHouse" "tape" "LStaveHouse$ByteRow;") ∈ wAll := wA_2 (j := 137) rfl rfl
theorem k_2_139 : (Jvm.Cond.laysFinal "StaveHouse" "StaveHouse" "waiting" "[I") ∈ wAll := wA_2 (j := 139) rfl rfl
theorem k_2_141 : (Jvm.Cond.laysFinal "StaveHouse" "StaveHouse" "written" "LStaveHouse$ByteRow;") ∈ wAll := wA_2 (j := 141) rfl rfl
theorem k_2_143 : (Jvm.Cond.laysFinal "StaveHouse" "StaveHouse" "pieces" "[LStaveHouse$Piece;") ∈ wAll := wA_2 (j := 143) rfl rfl
theorem k_2_145 : (Jvm.Cond.laysFinal "StaveHouse" "StaveHouse" "parser" "LStaveHouse$Parser;") ∈ wAll := wA_2 (j := 145) rfl rfl
theorem k_2_147 : (Jvm.Cond.laysFinal "StaveHouse" "StaveHouse" "walker" "LStaveHouse$Walker;") ∈ wAll := wA_2 (j := 147) rfl rfl
theorem k_2_149 : (Jvm.Cond.laysFinal "StaveHouse" "StaveHouse" "scribe" "LStaveHouse$Scribe;") ∈ wAll := wA_2 (j := 149) rfl rfl
theorem k_2_151 : (Jvm.Cond.lays "StaveHouse" "StaveHouse" "spare" "LStaveHouse$Piece;") ∈ wAll := wA_2 (j := 151) rfl rfl
theorem k_2_153 : (Jvm.Cond.lays "StaveHouse" "StaveHouse" "opened" "LStaveHouse$SoundFile;") ∈ wAll := wA_2 (j := 153) rfl rfl
theorem k_2_155 : (Jvm.Cond.lays "StaveHouse" "StaveHouse" "spareFile" "LStaveHouse$SoundFile;") ∈ wAll := wA_2 (j := 155) rfl rfl
theorem W_prog_24_method_12_code_0 : chW prog_24_method_12_code 0 [26, 155, 0, 13, 26, 27, 163, 0, 8, 27, 28, 164, 0, 11, 45, 26, 27, 28, 184, 0, 99, 191, 26, 172] := chW_of (by decide +kernel)
theorem W_prog_1_method_3_code_0 : chW prog_1_method_3_code 0 [3, 62, 29, 7, 162, 0, 38, 27, 29, 96, 16, 20, 162, 0, 30, 42, 180, 0, 18, 27, 29, 96, 28, 16, 24, 16, 8, 29, 104, 100, 124, 17, 0, 255, 126, 79] := chW_of (by decide +kernel)
theorem W_prog_1_method_3_code_32 : chW prog_1_method_3_code 32 [0, 255, 126, 79, 132, 3, 1, 167, 255, 219, 177] := chW_of (by decide +kernel)
theorem d_1_3_36 : decode prog_1_method_3_code 36 = .ok (.iinc 3 1, 3) := D_132 W_prog_1_method_3_code_32 4 rfl rfl rfl
theorem W_prog_2_method_4_code_0 : chW prog_2_method_4_code 0 [42, 180, 0, 21, 42, 180, 0, 15, 190, 161, 0, 9, 42, 4, 181, 0, 25, 177, 42, 180, 0, 15, 42, 180, 0, 21, 27, 17, 0, 255, 126, 79, 42, 89, 180, 0] := chW_of (by decide +kernel)
theorem W_prog_2_method_4_code_32 : chW prog_2_method_4_code 32 [42, 89, 180, 0, 21, 4, 96, 181, 0, 21, 177] := chW_of (by decide +kernel)
theorem W_prog_8_method_2_code_0 : chW prog_8_method_2_code 0 [42, 3, 181, 0, 17, 42, 3, 181, 0, 21, 42, 3, 181, 0, 24, 42, 7, 181, 0, 27, 42, 7, 181, 0, 30, 42, 16, 120, 181, 0, 33, 42, 3, 181, 0, 36] := chW_of (by decide +kernel)
theorem W_prog_8_method_2_code_32 : chW prog_8_method_2_code 32 [3, 181, 0, 36, 42, 3, 181, 0, 39, 42, 3, 181, 0, 43, 42, 3, 181, 0, 46, 42, 180, 0, 49, 198, 0, 11, 42, 180, 0, 49, 3, 181, 0, 53, 177] := chW_of (by decide +kernel)
theorem W_prog_8_method_2_code_64 : chW prog_8_method_2_code 64 [0, 53, 177] := chW_of (by decide +kernel)
theorem W_prog_2_method_3_code_0 : chW prog_2_method_3_code 0 [27, 155, 0, 11, 27, 42, 180, 0, 21, 161, 0, 7, 2, 167, 0, 9, 42, 180, 0, 15, 27, 46, 172] := chW_of (by decide +kernel)
theorem W_prog_12_method_11_code_0 : chW prog_12_method_11_code 0 [26, 16, 9, 159, 0, 21, 26, 16, 10, 159, 0, 15, 26, 16, 13, 159, 0, 9, 26, 16, 32, 160, 0, 7, 4, 167, 0, 4, 3, 172] := chW_of (by decide +kernel)
theorem W_prog_12_method_12_code_0 : chW prog_12_method_12_code 0 [26, 16, 97, 161, 0, 13, 26, 16, 122, 163, 0, 7, 4, 167, 0, 4, 3, 172] := chW_of (by decide +kernel)
theorem W_prog_12_method_13_code_0 : chW prog_12_method_13_code 0 [26, 16, 48, 161, 0, 13, 26, 16, 57, 163, 0, 7, 4, 167, 0, 4, 3, 172] := chW_of (by decide +kernel)
theorem W_prog_12_method_9_code_0 : chW prog_12_method_9_code 0 [42, 27, 182, 0, 28, 62, 42, 27, 28, 96, 4, 100, 182, 0, 28, 54, 4, 28, 5, 161, 0, 34, 28, 7, 163, 0, 29, 29, 16, 97, 161, 0, 23, 29, 16, 103] := chW_of (by decide +kernel)
theorem W_prog_12_method_9_code_32 : chW prog_12_method_9_code 32 [23, 29, 16, 103, 163, 0, 17, 21, 4, 16, 48, 161, 0, 10, 21, 4, 16, 56, 164, 0, 5, 3, 172, 42, 27, 4, 96, 182, 0, 28, 54, 5, 4, 54, 6, 21] := chW_of (by decide +kernel)
theorem W_prog_12_method_9_code_64 : chW prog_12_method_9_code 64 [4, 54, 6, 21, 6, 28, 4, 100, 162, 0, 42, 42, 27, 21, 6, 96, 182, 0, 28, 54, 7, 21, 7, 21, 5, 160, 0, 17, 21, 7, 16, 35, 159, 0, 12, 21] := chW_of (by decide +kernel)
theorem W_prog_12_method_9_code_96 : chW prog_12_method_9_code 96 [159, 0, 12, 21, 7, 16, 98, 159, 0, 5, 3, 172, 132, 6, 1, 167, 255, 212, 4, 172] := chW_of (by decide +kernel)
theorem d_12_9_108 : decode prog_12_method_9_code 108 = .ok (.iinc 6 1, 3) := D_132 W_prog_12_method_9_code_96 12 rfl rfl rfl
theorem W_prog_12_method_10_code_0 : chW prog_12_method_10_code 0 [42, 27, 182, 0, 28, 16, 97, 100, 8, 96, 16, 7, 112, 62, 16, 7, 42, 27, 28, 96, 4, 100, 182, 0, 28, 16, 48, 100, 104, 29, 96, 54, 4, 42, 27, 4] := chW_of (by decide +kernel)
theorem W_prog_12_method_10_code_32 : chW prog_12_method_10_code 32 [4, 42, 27, 4, 96, 182, 0, 28, 16, 35, 160, 0, 9, 28, 5, 100, 167, 0, 6, 5, 28, 100, 54, 5, 16, 8, 21, 4, 104, 21, 5, 96, 5, 96, 133, 173] := chW_of (by decide +kernel)
theorem W_prog_12_method_10_code_64 : chW prog_12_method_10_code 64 [5, 96, 133, 173] := chW_of (by decide +kernel)
theorem W_prog_12_method_8_code_0 : chW prog_12_method_8_code 0 [9, 55, 5, 3, 54, 7, 21, 7, 28, 162, 0, 30, 22, 5, 29, 133, 105, 42, 27, 21, 7, 96, 182, 0, 28, 133, 97, 21, 4, 133, 101, 55, 5, 132, 7, 1] := chW_of (by decide +kernel)
theorem W_prog_12_method_8_code_32 : chW prog_12_method_8_code 32 [5, 132, 7, 1, 167, 255, 226, 22, 5, 173] := chW_of (by decide +kernel)
theorem d_12_8_33 : decode prog_12_method_8_code 33 = .ok (.iinc 7 1, 3) := D_132 W_prog_12_method_8_code_32 1 rfl rfl rfl
theorem W_prog_22_method_4_code_0 : chW prog_22_method_4_code 0 [26, 155, 0, 14, 26, 17, 0, 255, 163, 0, 7, 4, 167, 0, 4, 3, 172] := chW_of (by decide +kernel)
theorem W_prog_22_method_23_code_0 : chW prog_22_method_23_code 0 [27, 145, 54, 4, 28, 54, 5, 21, 5, 29, 162, 0, 21, 42, 21, 5, 51, 21, 4, 160, 0, 6, 21, 5, 172, 132, 5, 1, 167, 255, 235, 2, 172] := chW_of (by decide +kernel)
theorem W_prog_22_method_23_code_32 : chW prog_22_method_23_code 32 [172] := chW_of (by decide +kernel)
theorem d_22_23_25 : decode prog_22_method_23_code 25 = .ok (.iinc 5 1, 3) := D_132 W_prog_22_method_23_code_0 25 rfl rfl rfl
theorem W_prog_21_method_158_code_0 : chW prog_21_method_158_code 0 [26, 27, 28, 178, 4, 29, 184, 4, 38, 87, 177] := chW_of (by decide +kernel)
theorem W_prog_12_method_3_code_0 : chW prog_12_method_3_code 0 [42, 42, 180, 0, 9, 42, 180, 0, 54, 46, 181, 0, 60, 42, 42, 180, 0, 15, 42, 180, 0, 54, 46, 181, 0, 63, 42, 42, 180, 0, 18, 42, 180, 0, 54, 47] := chW_of (by decide +kernel)
theorem W_prog_12_method_3_code_32 : chW prog_12_method_3_code 32 [180, 0, 54, 47, 181, 0, 66, 42, 180, 0, 60, 5, 160, 0, 29, 42, 42, 180, 0, 66, 136, 16, 8, 108, 181, 0, 70, 42, 42, 180, 0, 66, 136, 16, 8, 112] := chW_of (by decide +kernel)
theorem W_prog_12_method_3_code_64 : chW prog_12_method_3_code 64 [136, 16, 8, 112, 5, 100, 181, 0, 73, 42, 180, 0, 60, 153, 0, 23, 42, 180, 0, 54, 17, 11, 184, 162, 0, 13, 42, 89, 180, 0, 54, 4, 96, 181, 0, 54] := chW_of (by decide +kernel)
theorem W_prog_12_method_3_code_96 : chW prog_12_method_3_code 96 [96, 181, 0, 54, 177] := chW_of (by decide +kernel)
theorem W_prog_12_method_5_code_0 : chW prog_12_method_5_code 0 [42, 180, 0, 60, 7, 160, 0, 16, 42, 180, 0, 66, 31, 148, 154, 0, 7, 4, 167, 0, 4, 3, 172] := chW_of (by decide +kernel)
theorem W_prog_5_method_5_code_0 : chW prog_5_method_5_code 0 [42, 180, 0, 48, 20, 0, 116, 182, 0, 88, 153, 0, 5, 4, 172, 42, 180, 0, 48, 20, 0, 118, 182, 0, 88, 153, 0, 5, 5, 172, 42, 180, 0, 48, 20, 0] := chW_of (by decide +kernel)
theorem W_prog_5_method_5_code_32 : chW prog_5_method_5_code 32 [0, 48, 20, 0, 120, 182, 0, 88, 153, 0, 7, 7, 167, 0, 4, 3, 172] := chW_of (by decide +kernel)
theorem W_prog_5_method_16_code_0 : chW prog_5_method_16_code 0 [42, 180, 0, 59, 17, 11, 183, 184, 0, 229, 61, 42, 28, 4, 96, 181, 0, 59, 42, 180, 0, 9, 28, 27, 79, 42, 180, 0, 15, 28, 42, 180, 0, 48, 180, 0] := chW_of (by decide +kernel)
theorem W_prog_5_method_16_code_32 : chW prog_5_method_16_code 32 [0, 48, 180, 0, 110, 79, 42, 180, 0, 18, 28, 3, 79, 42, 180, 0, 21, 28, 2, 79, 42, 180, 0, 24, 28, 2, 79, 42, 180, 0, 27, 28, 2, 79, 42, 180] := chW_of (by decide +kernel)
theorem W_prog_5_method_16_code_64 : chW prog_5_method_16_code 64 [2, 79, 42, 180, 0, 30, 28, 3, 79, 42, 180, 0, 33, 28, 3, 79, 28, 172] := chW_of (by decide +kernel)
theorem W_prog_5_method_13_code_0 : chW prog_5_method_13_code 0 [3, 62, 29, 42, 190, 162, 0, 19, 42, 29, 47, 31, 148, 154, 0, 5, 29, 172, 132, 3, 1, 167, 255, 237, 2, 172] := chW_of (by decide +kernel)
theorem d_5_13_18 : decode prog_5_method_13_code 18 = .ok (.iinc 3 1, 3) := D_132 W_prog_5_method_13_code_0 18 rfl rfl rfl
theorem W_prog_5_method_3_code_0 : chW prog_5_method_3_code 0 [42, 42, 180, 0, 48, 180, 0, 108, 4, 160, 0, 7, 4, 167, 0, 4, 27, 16, 16, 42, 180, 0, 48, 180, 0, 110, 104, 96, 181, 0, 75, 3, 172] := chW_of (by decide +kernel)
theorem W_prog_5_method_3_code_32 : chW prog_5_method_3_code 32 [172] := chW_of (by decide +kernel)
theorem W_prog_5_method_10_code_0 : chW prog_5_method_10_code 0 [3, 62, 29, 42, 180, 0, 66, 162, 0, 27, 42, 180, 0, 52, 29, 47, 31, 148, 154, 0, 10, 42, 180, 0, 56, 29, 46, 172, 132, 3, 1, 167, 255, 227, 2, 172] := chW_of (by decide +kernel)
theorem W_prog_5_method_10_code_32 : chW prog_5_method_10_code 32 [255, 227, 2, 172] := chW_of (by decide +kernel)
theorem d_5_10_28 : decode prog_5_method_10_code 28 = .ok (.iinc 3 1, 3) := D_132 W_prog_5_method_10_code_0 28 rfl rfl rfl
theorem W_prog_12_method_4_code_0 : chW prog_12_method_4_code 0 [42, 180, 0, 60, 8, 160, 0, 17, 42, 180, 0, 66, 27, 133, 148, 154, 0, 7, 4, 167, 0, 4, 3, 172] := chW_of (by decide +kernel)
theorem W_prog_5_method_17_code_0 : chW prog_5_method_17_code 0 [42, 180, 0, 48, 27, 182, 0, 153, 154, 0, 9, 42, 5, 182, 0, 101, 172, 42, 180, 0, 72, 16, 8, 161, 0, 9, 42, 6, 182, 0, 101, 172, 42, 89, 180, 0] := chW_of (by decide +kernel)
theorem W_prog_5_method_17_code_32 : chW prog_5_method_17_code 32 [42, 89, 180, 0, 72, 4, 96, 181, 0, 72, 42, 180, 0, 48, 182, 0, 122, 4, 172] := chW_of (by decide +kernel)
theorem W_prog_5_method_21_code_0 : chW prog_5_method_21_code 0 [42, 180, 0, 48, 180, 0, 108, 7, 160, 0, 46, 178, 0, 218, 42, 180, 0, 48, 180, 0, 173, 184, 0, 193, 60, 27, 2, 159, 0, 7, 7, 27, 96, 172, 42, 180] := chW_of (by decide +kernel)
theorem W_prog_5_method_21_code_32 : chW prog_5_method_21_code 32 [96, 172, 42, 180, 0, 48, 180, 0, 173, 20, 0, 250, 148, 154, 0, 7, 3, 167, 0, 4, 2, 172, 42, 180, 0, 48, 180, 0, 108, 5, 159, 0, 15, 42, 180, 0] := chW_of (by decide +kernel)
theorem W_prog_5_method_21_code_64 : chW prog_5_method_21_code 64 [15, 42, 180, 0, 48, 16, 60, 182, 0, 153, 153, 0, 5, 3, 172, 42, 180, 0, 48, 16, 124, 182, 0, 153, 153, 0, 5, 4, 172, 42, 180, 0, 48, 16, 33, 182] := chW_of (by decide +kernel)
theorem W_prog_5_method_21_code_96 : chW prog_5_method_21_code 96 [48, 16, 33, 182, 0, 153, 153, 0, 5, 5, 172, 42, 180, 0, 48, 16, 91, 182, 0, 153, 153, 0, 7, 6, 167, 0, 4, 2, 172] := chW_of (by decide +kernel)
theorem W_prog_5_method_24_code_0 : chW prog_5_method_24_code 0 [42, 180, 0, 63, 42, 180, 0, 36, 190, 162, 0, 71, 42, 180, 0, 36, 42, 180, 0, 63, 42, 180, 0, 48, 180, 1, 34, 79, 42, 180, 0, 39, 42, 180, 0, 63] := chW_of (by decide +kernel)
theorem W_prog_5_method_24_code_32 : chW prog_5_method_24_code 32 [42, 180, 0, 63, 42, 180, 0, 48, 180, 1, 37, 79, 42, 180, 0, 42, 42, 180, 0, 63, 42, 180, 0, 48, 180, 0, 110, 79, 42, 89, 180, 0, 63, 4, 96, 181] := chW_of (by decide +kernel)
theorem W_prog_5_method_24_code_64 : chW prog_5_method_24_code 64 [63, 4, 96, 181, 0, 63, 42, 180, 0, 30, 27, 92, 46, 4, 96, 79, 42, 180, 0, 48, 182, 0, 122, 177] := chW_of (by decide +kernel)
theorem W_prog_19_method_50_code_0 : chW prog_19_method_50_code 0 [30, 30, 4, 125, 20, 1, 58, 127, 101, 63, 30, 20, 1, 60, 127, 30, 5, 125, 20, 1, 60, 127, 97, 63, 30, 30, 7, 125, 97, 20, 1, 62, 127, 63, 30, 30] := chW_of (by decide +kernel)
theorem W_prog_19_method_50_code_32 : chW prog_19_method_50_code 32 [127, 63, 30, 30, 16, 8, 125, 97, 63, 30, 30, 16, 16, 125, 97, 63, 30, 30, 16, 32, 125, 97, 63, 30, 136, 16, 127, 126, 172] := chW_of (by decide +kernel)
theorem W_prog_5_method_28_code_0 : chW prog_5_method_28_code 0 [42, 180, 0, 48, 180, 0, 108, 7, 160, 0, 19, 178, 0, 215, 42, 180, 0, 48, 180, 0, 173, 184, 0, 193, 167, 0, 4, 2, 61, 28, 2, 160, 0, 9, 42, 5] := chW_of (by decide +kernel)
theorem W_prog_5_method_28_code_32 : chW prog_5_method_28_code 32 [0, 9, 42, 5, 182, 0, 101, 172, 42, 180, 0, 18, 27, 28, 79, 42, 180, 0, 48, 182, 0, 122, 4, 172] := chW_of (by decide +kernel)
theorem W_prog_20_method_47_code_0 : chW prog_20_method_47_code 0 [26, 27, 108, 61, 26, 27, 130, 156, 0, 14, 28, 27, 104, 26, 159, 0, 7, 28, 4, 100, 172, 28, 172] := chW_of (by decide +kernel)
theorem W_prog_20_method_50_code_0 : chW prog_20_method_50_code 0 [26, 27, 112, 61, 26, 27, 130, 156, 0, 11, 28, 153, 0, 7, 28, 27, 96, 172, 28, 172] := chW_of (by decide +kernel)
set_option maxRecDepth 20000 in
theorem inW_0 : ∀ w ∈ u_ws RX0 TX0 3, w ∈ wAll := by
  show ∀ w ∈ [(Jvm.Cond.laysFinal "StaveHouse$ByteRow" "StaveHouse$ByteRow" "bytes" "[I"), (Jvm.Cond.lays "StaveHouse$ByteRow" "StaveHouse$ByteRow" "size" "I"), (Jvm.Cond.lays "StaveHouse$ByteRow" "StaveHouse$ByteRow" "full" "Z")], w ∈ wAll
  exact List.forall_mem_cons.mpr ⟨k_1_50, List.forall_mem_cons.mpr ⟨k_1_52, List.forall_mem_cons.mpr ⟨k_1_54, fun _ h => absurd h List.not_mem_nil⟩⟩⟩
set_option maxRecDepth 20000 in
theorem inW_2 : ∀ w ∈ u_ws RX2 TX2 13, w ∈ wAll := by
  show ∀ w ∈ [(Jvm.Cond.lays "StaveHouse$Layout" "StaveHouse$Layout" "lineCount" "I"), (Jvm.Cond.laysFinal "StaveHouse$Layout" "StaveHouse$Layout" "columnPlaces" "[J"), (Jvm.Cond.laysFinal "StaveHouse$Layout" "StaveHouse$Layout" "columnWidths" "[I"), (Jvm.Cond.laysFinal "StaveHouse$Layout" "StaveHouse$Layout" "columnXs" "[I"), (Jvm.Cond.lays "StaveHouse$Layout" "StaveHouse$Layout" "columns" "I"), (Jvm.Cond.laysFinal "StaveHouse$Layout" "StaveHouse$Layout" "barFirsts" "[I"), (Jvm.Cond.laysFinal "StaveHouse$Layout" "StaveHouse$Layout" "barWidths" "[I"), (Jvm.Cond.laysFinal "StaveHouse$Layout" "StaveHouse$Layout" "lineFirsts" "[I"), (Jvm.Cond.laysFinal "StaveHouse$Layout" "StaveHouse$Layout" "lineWidths" "[I"), (Jvm.Cond.laysFinal "StaveHouse$Layout" "StaveHouse$Layout" "linePrices" "[J"), (Jvm.Cond.laysFinal "StaveHouse$Layout" "StaveHouse$Layout" "best" "[J"), (Jvm.Cond.laysFinal "StaveHouse$Layout" "StaveHouse$Layout" "breaks" "[I"), (Jvm.Cond.laysFinal "StaveHouse$Layout" "StaveHouse$Layout" "nexts" "[I")], w ∈ wAll
  exact List.forall_mem_cons.mpr ⟨k_6_230, List.forall_mem_cons.mpr ⟨k_6_232, List.forall_mem_cons.mpr ⟨k_6_234, List.forall_mem_cons.mpr ⟨k_6_236, List.forall_mem_cons.mpr ⟨k_6_238, List.forall_mem_cons.mpr ⟨k_7_0, List.forall_mem_cons.mpr ⟨k_7_2, List.forall_mem_cons.mpr ⟨k_7_4, List.forall_mem_cons.mpr ⟨k_7_6, List.forall_mem_cons.mpr ⟨k_7_8, List.forall_mem_cons.mpr ⟨k_7_10, List.forall_mem_cons.mpr ⟨k_7_12, List.forall_mem_cons.mpr ⟨k_7_14, fun _ h => absurd h List.not_mem_nil⟩⟩⟩⟩⟩⟩⟩⟩⟩⟩⟩⟩⟩
set_option maxRecDepth 20000 in
theorem inW_3 : ∀ w ∈ u_ws RX3 TX3 22, w ∈ wAll := by
  show ∀ w ∈ [(Jvm.Cond.laysFinal "StaveHouse$Parser" "StaveHouse$Parser" "kind" "[I"), (Jvm.Cond.laysFinal "StaveHouse$Parser" "StaveHouse$Parser" "place" "[I"), (Jvm.Cond.laysFinal "StaveHouse$Parser" "StaveHouse$Parser" "first" "[I"), (Jvm.Cond.laysFinal "StaveHouse$Parser" "StaveHouse$Parser" "second" "[I"), (Jvm.Cond.laysFinal "StaveHouse$Parser" "StaveHouse$Parser" "child" "[I"), (Jvm.Cond.laysFinal "StaveHouse$Parser" "StaveHouse$Parser" "next" "[I"), (Jvm.Cond.laysFinal "StaveHouse$Parser" "StaveHouse$Parser" "count" "[I"), (Jvm.Cond.laysFinal "StaveHouse$Parser" "StaveHouse$Parser" "marks" "[I"), (Jvm.Cond.laysFinal "StaveHouse$Parser" "StaveHouse$Parser" "pitchSteps" "[I"), (Jvm.Cond.laysFinal "StaveHouse$Parser" "StaveHouse$Parser" "pitchAlterations" "[I"), (Jvm.Cond.laysFinal "StaveHouse$Parser" "StaveHouse$Parser" "pitchPlaces" "[I"), (Jvm.Cond.laysFinal "StaveHouse$Parser" "StaveHouse$Parser" "token" "LStaveHouse$Tokens;"), (Jvm.Cond.laysFinal "StaveHouse$Parser" "StaveHouse$Parser" "letNames" "[J"), (Jvm.Cond.laysFinal "StaveHouse$Parser" "StaveHouse$Parser" "letItems" "[I"), (Jvm.Cond.lays "StaveHouse$Parser" "StaveHouse$Parser" "items" "I"), (Jvm.Cond.lays "StaveHouse$Parser" "StaveHouse$Parser" "pitches" "I"), (Jvm.Cond.lays "StaveHouse$Parser" "StaveHouse$Parser" "lets" "I"), (Jvm.Cond.lays "StaveHouse$Parser" "StaveHouse$Parser" "headsTold" "I"), (Jvm.Cond.lays "StaveHouse$Parser" "StaveHouse$Parser" "depth" "I"), (Jvm.Cond.lays "StaveHouse$Parser" "StaveHouse$Parser" "number" "I"), (Jvm.Cond.lays "StaveHouse$Parser" "StaveHouse$Parser" "length" "I"), (Jvm.Cond.lays "StaveHouse$Parser" "StaveHouse$Parser" "wrong" "I")], w ∈ wAll
  exact List.forall_mem_cons.mpr ⟨k_1_139, List.forall_mem_cons.mpr ⟨k_1_141, List.forall_mem_cons.mpr ⟨k_1_143, List.forall_mem_cons.mpr ⟨k_1_145, List.forall_mem_cons.mpr ⟨k_1_147, List.forall_mem_cons.mpr ⟨k_1_149, List.forall_mem_cons.mpr ⟨k_1_151, List.forall_mem_cons.mpr ⟨k_1_153, List.forall_mem_cons.mpr ⟨k_1_155, List.forall_mem_cons.mpr ⟨k_1_157, List.forall_mem_cons.mpr ⟨k_1_159, List.forall_mem_cons.mpr ⟨k_1_161, List.forall_mem_cons.mpr ⟨k_1_163, List.forall_mem_cons.mpr ⟨k_1_165, List.forall_mem_cons.mpr ⟨k_1_167, List.forall_mem_cons.mpr ⟨k_1_169, List.forall_mem_cons.mpr ⟨k_1_171, List.forall_mem_cons.mpr ⟨k_1_173, List.forall_mem_cons.mpr ⟨k_1_175, List.forall_mem_cons.mpr ⟨k_1_177, List.forall_mem_cons.mpr ⟨k_1_179, List.forall_mem_cons.mpr ⟨k_1_181, fun _ h => absurd h List.not_mem_nil⟩⟩⟩⟩⟩⟩⟩⟩⟩⟩⟩⟩⟩⟩⟩⟩⟩⟩⟩⟩⟩⟩
set_option maxRecDepth 20000 in
theorem inW_6 : ∀ w ∈ u_ws RX6 TX6 14, w ∈ wAll := by
  show ∀ w ∈ [(Jvm.Cond.laysFinal "StaveHouse$Piece" "StaveHouse$Piece" "parts" "[LStaveHouse$Part;"), (Jvm.Cond.lays "StaveHouse$Piece" "StaveHouse$Piece" "partCount" "I"), (Jvm.Cond.lays "StaveHouse$Piece" "StaveHouse$Piece" "fifths" "I"), (Jvm.Cond.lays "StaveHouse$Piece" "StaveHouse$Piece" "minor" "I"), (Jvm.Cond.lays "StaveHouse$Piece" "StaveHouse$Piece" "above" "I"), (Jvm.Cond.lays "StaveHouse$Piece" "StaveHouse$Piece" "below" "I"), (Jvm.Cond.lays "StaveHouse$Piece" "StaveHouse$Piece" "tempo" "I"), (Jvm.Cond.lays "StaveHouse$Piece" "StaveHouse$Piece" "bars" "I"), (Jvm.Cond.lays "StaveHouse$Piece" "StaveHouse$Piece" "layout" "LStaveHouse$Layout;"), (Jvm.Cond.lays "StaveHouse$Piece" "StaveHouse$Piece" "performance" "LStaveHouse$Performance;"), (Jvm.Cond.lays "StaveHouse$Piece" "StaveHouse$Piece" "performed" "Z"), (Jvm.Cond.lays "StaveHouse$Piece" "StaveHouse$Piece" "sounded" "Z"), (Jvm.Cond.lays "StaveHouse$Piece" "StaveHouse$Piece" "study" "LStaveHouse$Study;"), (Jvm.Cond.lays "StaveHouse$Piece" "StaveHouse$Piece" "studied" "Z")], w ∈ wAll
  exact List.forall_mem_cons.mpr ⟨k_2_233, List.forall_mem_cons.mpr ⟨k_2_235, List.forall_mem_cons.mpr ⟨k_2_237, List.forall_mem_cons.mpr ⟨k_2_239, List.forall_mem_cons.mpr ⟨k_3_1, List.forall_mem_cons.mpr ⟨k_3_3, List.forall_mem_cons.mpr ⟨k_3_5, List.forall_mem_cons.mpr ⟨k_3_7, List.forall_mem_cons.mpr ⟨k_3_9, List.forall_mem_cons.mpr ⟨k_3_11, List.forall_mem_cons.mpr ⟨k_3_13, List.forall_mem_cons.mpr ⟨k_3_15, List.forall_mem_cons.mpr ⟨k_3_17, List.forall_mem_cons.mpr ⟨k_3_19, fun _ h => absurd h List.not_mem_nil⟩⟩⟩⟩⟩⟩⟩⟩⟩⟩⟩⟩⟩⟩
set_option maxRecDepth 20000 in
theorem inW_10 : ∀ w ∈ u_ws RX10 TX10 9, w ∈ wAll := by
  show ∀ w ∈ [(Jvm.Cond.lays "StaveHouse$Tokens" "StaveHouse$Tokens" "kind" "I"), (Jvm.Cond.lays "StaveHouse$Tokens" "StaveHouse$Tokens" "place" "I"), (Jvm.Cond.lays "StaveHouse$Tokens" "StaveHouse$Tokens" "value" "J"), (Jvm.Cond.lays "StaveHouse$Tokens" "StaveHouse$Tokens" "step" "I"), (Jvm.Cond.lays "StaveHouse$Tokens" "StaveHouse$Tokens" "alteration" "I"), (Jvm.Cond.laysFinal "StaveHouse$Tokens" "StaveHouse$Tokens" "kinds" "[I"), (Jvm.Cond.laysFinal "StaveHouse$Tokens" "StaveHouse$Tokens" "places" "[I"), (Jvm.Cond.laysFinal "StaveHouse$Tokens" "StaveHouse$Tokens" "values" "[J"), (Jvm.Cond.lays "StaveHouse$Tokens" "StaveHouse$Tokens" "next" "I")], w ∈ wAll
  exact List.forall_mem_cons.mpr ⟨k_1_86, List.forall_mem_cons.mpr ⟨k_1_88, List.forall_mem_cons.mpr ⟨k_1_90, List.forall_mem_cons.mpr ⟨k_1_92, List.forall_mem_cons.mpr ⟨k_1_94, List.forall_mem_cons.mpr ⟨k_1_96, List.forall_mem_cons.mpr ⟨k_1_98, List.forall_mem_cons.mpr ⟨k_1_100, List.forall_mem_cons.mpr ⟨k_1_102, fun _ h => absurd h List.not_mem_nil⟩⟩⟩⟩⟩⟩⟩⟩⟩
set_option maxRecDepth 20000 in
theorem inW_12 : ∀ w ∈ u_ws RX12 TX12 10, w ∈ wAll := by
  show ∀ w ∈ [(Jvm.Cond.laysFinal "StaveHouse" "StaveHouse" "tape" "LStaveHouse$ByteRow;"), (Jvm.Cond.laysFinal "StaveHouse" "StaveHouse" "waiting" "[I"), (Jvm.Cond.laysFinal "StaveHouse" "StaveHouse" "written" "LStaveHouse$ByteRow;"), (Jvm.Cond.laysFinal "StaveHouse" "StaveHouse" "pieces" "[LStaveHouse$Piece;"), (Jvm.Cond.laysFinal "StaveHouse" "StaveHouse" "parser" "LStaveHouse$Parser;"), (Jvm.Cond.laysFinal "StaveHouse" "StaveHouse" "walker" "LStaveHouse$Walker;"), (Jvm.Cond.laysFinal "StaveHouse" "StaveHouse" "scribe" "LStaveHouse$Scribe;"), (Jvm.Cond.lays "StaveHouse" "StaveHouse" "spare" "LStaveHouse$Piece;"), (Jvm.Cond.lays "StaveHouse" "StaveHouse" "opened" "LStaveHouse$SoundFile;"), (Jvm.Cond.lays "StaveHouse" "StaveHouse" "spareFile" "LStaveHouse$SoundFile;")], w ∈ wAll
  exact List.forall_mem_cons.mpr ⟨k_2_137, List.forall_mem_cons.mpr ⟨k_2_139, List.forall_mem_cons.mpr ⟨k_2_141, List.forall_mem_cons.mpr ⟨k_2_143, List.forall_mem_cons.mpr ⟨k_2_145, List.forall_mem_cons.mpr ⟨k_2_147, List.forall_mem_cons.mpr ⟨k_2_149, List.forall_mem_cons.mpr ⟨k_2_151, List.forall_mem_cons.mpr ⟨k_2_153, List.forall_mem_cons.mpr ⟨k_2_155, fun _ h => absurd h List.not_mem_nil⟩⟩⟩⟩⟩⟩⟩⟩⟩⟩
abbrev Q_CPreconditions_checkFromToIndex (K : zK) (D : va_G) (ca : Nat → ClassId) (ad : Nat → Int → Nat → Nat) (L : List Nat) (r : Int) (F : zF) (B : zB) (A : Nat → Prop) : Array Value → State → Outcome → State → Prop := va_Qi (S := Unit) (fun p _ => p = iI r) (fun _ => zPo D ca ad lnC K.2 L F B A) A
def f_CPreconditions_checkFromToIndex_14 (K : zK) (l0 : Int) (l1 : Int) (l2 : Int) (F : zF) (B : zB) : zO := none
set_option maxHeartbeats 4000000 in
set_option maxRecDepth 100000 in
theorem b_CPreconditions_checkFromToIndex_14 {D : va_G} {ca : Nat → ClassId} {ad : Nat → Int → Nat → Nat} {L : List Nat} {aS vS : Nat → Nat} {A : Nat → Prop} {p : Program} {l : Launch} {e : Env} {s : State} {m : MethodId} {args : Array Value} {below : List Frame} {meth : Method} {c : Code} {K : zK} {r : Int} {F9 : zF} {B9 : zB} (X : zX D ca L aS vS A p s m args meth c prog_24_method_12_code 4 (Option.some Jvm.ClassFile.FieldType.int) "jdk/internal/util/Preconditions") {l0 : Int} {l1 : Int} {l2 : Int} {F : zF} {B : zB} {H : Heap} {locs : List Loc} {ls : Array Slot} (hf : f_CPreconditions_checkFromToIndex_14 K l0 l1 l2 F B = some (r, F9, B9)) (hZ : zH D ca ad lnC K.2 L F B A H) (hS : va_S A s.heap H locs) (hl : lv_has ls 4 [(0, .int (iI l0)), (1, .int (iI l1)), (2, .int (iI l2))]) : W p l e ({ frames := 0, cells := 0, slots := 0, locals := 0 } : Room) s m args below meth c H locs 0 0 (MQ below (Q_CPreconditions_checkFromToIndex K D ca ad L r F9 B9 A) args s 0 0 A) (F0 m 14 ls []) := by
  obtain ⟨hx, hb, hr, hml, hown, hts, hlk, hK, hA, hL, hX⟩ := id X
  replace hf : (none) = some (r, F9, B9) := hf
  cases hf

def f_CPreconditions_checkFromToIndex (K : zK) (l0 : Int) (l1 : Int) (l2 : Int) (F : zF) (B : zB) : zO := if r32 l0 then (if l0 < 0 then f_CPreconditions_checkFromToIndex_14 K l0 l1 l2 F B else if r32 l1 then (if l1 < l0 then f_CPreconditions_checkFromToIndex_14 K l0 l1 l2 F B else if r32 l2 then (if l1 ≤ l2 then some (l0, F, B) else f_CPreconditions_checkFromToIndex_14 K l0 l1 l2 F B) else none) else none) else none
set_option maxHeartbeats 4000000 in
set_option maxRecDepth 100000 in
theorem c_CPreconditions_checkFromToIndex {l : Launch} {D : va_G} {ca : Nat → ClassId} {ad : Nat → Int → Nat → Nat} {L : List Nat} {aS vS : Nat → Nat} {sz : Nat} {K : zK} {l3 : Option Nat} {l0 : Int} {l1 : Int} {l2 : Int} {F F9 : zF} {B B9 : zB} {r : Int} (hf : f_CPreconditions_checkFromToIndex K l0 l1 l2 F B = some (r, F9, B9)) : Met l ({ cls := "jdk/internal/util/Preconditions", name := "checkFromToIndex", desc := "(IIILjava/util/function/BiFunction;)I" } : Jvm.MethodName) (Cond.code ({ cls := "jdk/internal/util/Preconditions", name := "checkFromToIndex", desc := "(IIILjava/util/function/BiFunction;)I" } : Jvm.MethodName) prog_24_method_12_code 4 (Option.some Jvm.ClassFile.FieldType.int) :: wAll) ({ frames := 0, cells := 0, slots := 0, locals := 0 } : Room) (va_Pc [.int (iI l0), .int (iI l1), .int (iI l2), va_rf l3] (zPre D ca ad lnC K.2 L aS vS F B sz)) (Q_CPreconditions_checkFromToIndex K D ca ad L r F9 B9 (zA L sz)) 0 0 (zA L sz) := by
  refine zMet (Qc := Q_CPreconditions_checkFromToIndex K D ca ad L r F9 B9) (lv := [(0, .int (iI l0)), (1, .int (iI l1)), (2, .int (iI l2)), (3, va_rf l3)]) (by decide) (by cases l3 <;> exact Nat.le_of_ble_eq_true rfl) (by cases l3 <;> rfl) (fun A p e s m below meth c ls X hZ hS hl => ?_)
  obtain ⟨hx, hb, hr, hml, hown, hts, hlk, hK, hA, hL, hX⟩ := id X
  replace hf : (if r32 l0 then (if l0 < 0 then f_CPreconditions_checkFromToIndex_14 K l0 l1 l2 F B else if r32 l1 then (if l1 < l0 then f_CPreconditions_checkFromToIndex_14 K l0 l1 l2 F B else if r32 l2 then (if l1 ≤ l2 then some (l0, F, B) else f_CPreconditions_checkFromToIndex_14 K l0 l1 l2 F B) else none) else none) else none) = some (r, F9, B9) := hf
  refine lv_iload_n hx hb (D_26 W_prog_24_method_12_code_0 0 rfl rfl) rfl (lv_at hl 0 rfl) ?_
  obtain ⟨g1, hf⟩ := gif hf
  refine z0lt (tgt := 14) hx hb g1 (D_155 W_prog_24_method_12_code_0 1 rfl rfl rfl) (by decide) (fun h2 => ?_) (fun h2 => ?_)
  · replace hf := gpos hf h2
    exact b_CPreconditions_checkFromToIndex_14 X hf hZ hS (lv_sub hl [0, 1, 2] rfl)
  · replace hf := gneg hf h2
    refine lv_iload_n hx hb (D_26 W_prog_24_method_12_code_0 4 rfl rfl) rfl (lv_at hl 0 rfl) ?_
    refine lv_iload_n hx hb (D_27 W_prog_24_method_12_code_0 5 rfl rfl) rfl (lv_at hl 1 rfl) ?_
    obtain ⟨g3, hf⟩ := gif hf
    refine zgt (tgt := 14) hx hb g1 g3 (D_163 W_prog_24_method_12_code_0 6 rfl rfl rfl) (by decide) (fun h4 => ?_) (fun h4 => ?_)
    · replace hf := gpos hf h4
      exact b_CPreconditions_checkFromToIndex_14 X hf hZ hS (lv_sub hl [0, 1, 2] rfl)
    · replace hf := gneg hf h4
      refine lv_iload_n hx hb (D_27 W_prog_24_method_12_code_0 9 rfl rfl) rfl (lv_at hl 1 rfl) ?_
      refine lv_iload_n hx hb (D_28 W_prog_24_method_12_code_0 10 rfl rfl) rfl (lv_at hl 2 rfl) ?_
      obtain ⟨g5, hf⟩ := gif hf
      refine zle (tgt := 22) hx hb g3 g5 (D_164 W_prog_24_method_12_code_0 11 rfl rfl rfl) (by decide) (fun h6 => ?_) (fun h6 => ?_)
      · replace hf := gpos hf h6
        refine lv_iload_n hx hb (D_26 W_prog_24_method_12_code_0 22 rfl rfl) rfl (lv_at hl 0 rfl) ?_
        cases hf
        exact W.iret hx hb hr (fun t ht hW => ⟨⟨_, (), rfl, rfl, by rw [ht]; exact hZ, va_K.moved hW.alike hK⟩, hS.F ht⟩) hS.2.2 (D_172 W_prog_24_method_12_code_0 23 rfl rfl) hlk
      · replace hf := gneg hf h6
        exact b_CPreconditions_checkFromToIndex_14 X hf hZ hS (lv_sub hl [0, 1, 2] rfl)

abbrev Q_CPreconditions_checkIndex (K : zK) (D : va_G) (ca : Nat → ClassId) (ad : Nat → Int → Nat → Nat) (L : List Nat) (r : Int) (F : zF) (B : zB) (A : Nat → Prop) : Array Value → State → Outcome → State → Prop := va_Qi (S := Unit) (fun p _ => p = iI r) (fun _ => zPo D ca ad lnC K.2 L F B A) A
def f_CPreconditions_checkIndex_9 (K : zK) (l0 : Int) (l1 : Int) (F : zF) (B : zB) : zO := none
set_option maxHeartbeats 4000000 in
set_option maxRecDepth 100000 in
theorem b_CPreconditions_checkIndex_9 {D : va_G} {ca : Nat → ClassId} {ad : Nat → Int → Nat → Nat} {L : List Nat} {aS vS : Nat → Nat} {A : Nat → Prop} {p : Program} {l : Launch} {e : Env} {s : State} {m : MethodId} {args : Array Value} {below : List Frame} {meth : Method} {c : Code} {K : zK} {r : Int} {F9 : zF} {B9 : zB} (X : zX D ca L aS vS A p s m args meth c prog_24_method_11_code 3 (Option.some Jvm.ClassFile.FieldType.int) "jdk/internal/util/Preconditions") {l0 : Int} {l1 : Int} {F : zF} {B : zB} {H : Heap} {locs : List Loc} {ls : Array Slot} (hf : f_CPreconditions_checkIndex_9 K l0 l1 F B = some (r, F9, B9)) (hZ : zH D ca ad lnC K.2 L F B A H) (hS : va_S A s.heap H locs) (hl : lv_has ls 3 [(0, .int (iI l0)), (1, .int (iI l1))]) : W p l e ({ frames := 0, cells := 0, slots := 0, locals := 0 } : Room) s m args below meth c H locs 0 0 (MQ below (Q_CPreconditions_checkIndex K D ca ad L r F9 B9 A) args s 0 0 A) (F0 m 9 ls []) := by
  obtain ⟨hx, hb, hr, hml, hown, hts, hlk, hK, hA, hL, hX⟩ := id X
  replace hf : (none) = some (r, F9, B9) := hf
  cases hf

def f_CPreconditions_checkIndex (K : zK) (l0 : Int) (l1 : Int) (F : zF) (B : zB) : zO := if r32 l0 then (if l0 < 0 then f_CPreconditions_checkIndex_9 K l0 l1 F B else if r32 l1 then (if l0 < l1 then some (l0, F, B) else f_CPreconditions_checkIndex_9 K l0 l1 F B) else none) else none
set_option maxHeartbeats 4000000 in
set_option maxRecDepth 100000 in
theorem c_CPreconditions_checkIndex {l : Launch} {D : va_G} {ca : Nat → ClassId} {ad : Nat → Int → Nat → Nat} {L : List Nat} {aS vS : Nat → Nat} {sz : Nat} {K : zK} {l2 : Option Nat} {l0 : Int} {l1 : Int} {F F9 : zF} {B B9 : zB} {r : Int} (hf : f_CPreconditions_checkIndex K l0 l1 F B = some (r, F9, B9)) : Met l ({ cls := "jdk/internal/util/Preconditions", name := "checkIndex", desc := "(IILjava/util/function/BiFunction;)I" } : Jvm.MethodName) (Cond.code ({ cls := "jdk/internal/util/Preconditions", name := "checkIndex", desc := "(IILjava/util/function/BiFunction;)I" } : Jvm.MethodName) prog_24_method_11_code 3 (Option.some Jvm.ClassFile.FieldType.int) :: wAll) ({ frames := 0, cells := 0, slots := 0, locals := 0 } : Room) (va_Pc [.int (iI l0), .int (iI l1), va_rf l2] (zPre D ca ad lnC K.2 L aS vS F B sz)) (Q_CPreconditions_checkIndex K D ca ad L r F9 B9 (zA L sz)) 0 0 (zA L sz) := by
  refine zMet (Qc := Q_CPreconditions_checkIndex K D ca ad L r F9 B9) (lv := [(0, .int (iI l0)), (1, .int (iI l1)), (2, va_rf l2)]) (by decide) (by cases l2 <;> exact Nat.le_of_ble_eq_true rfl) (by cases l2 <;> rfl) (fun A p e s m below meth c ls X hZ hS hl => ?_)
  obtain ⟨hx, hb, hr, hml, hown, hts, hlk, hK, hA, hL, hX⟩ := id X
  replace hf : (if r32 l0 then (if l0 < 0 then f_CPreconditions_checkIndex_9 K l0 l1 F B else if r32 l1 then (if l0 < l1 then some (l0, F, B) else f_CPreconditions_checkIndex_9 K l0 l1 F B) else none) else none) = some (r, F9, B9) := hf
  refine lv_iload_n hx hb d_24_11_0 rfl (lv_at hl 0 rfl) ?_
  obtain ⟨g1, hf⟩ := gif hf
  refine z0lt (tgt := 9) hx hb g1 d_24_11_1 (by decide) (fun h2 => ?_) (fun h2 => ?_)
  · replace hf := gpos hf h2
    exact b_CPreconditions_checkIndex_9 X hf hZ hS (lv_sub hl [0, 1] rfl)
  · replace hf := gneg hf h2
    refine lv_iload_n hx hb d_24_11_4 rfl (lv_at hl 0 rfl) ?_
    refine lv_iload_n hx hb d_24_11_5 rfl (lv_at hl 1 rfl) ?_
    obtain ⟨g3, hf⟩ := gif hf
    refine zlt (tgt := 16) hx hb g1 g3 d_24_11_6 (by decide) (fun h4 => ?_) (fun h4 => ?_)
    · replace hf := gpos hf h4
      refine lv_iload_n hx hb d_24_11_16 rfl (lv_at hl 0 rfl) ?_
      cases hf
      exact W.iret hx hb hr (fun t ht hW => ⟨⟨_, (), rfl, rfl, by rw [ht]; exact hZ, va_K.moved hW.alike hK⟩, hS.F ht⟩) hS.2.2 d_24_11_17 hlk
    · replace hf := gneg hf h4
      exact b_CPreconditions_checkIndex_9 X hf hZ hS (lv_sub hl [0, 1] rfl)

abbrev Q_S_waitWord (K : zK) (D : va_G) (ca : Nat → ClassId) (ad : Nat → Int → Nat → Nat) (L : List Nat) (r : Int) (F : zF) (B : zB) (A : Nat → Prop) : Array Value → State → Outcome → State → Prop := va_Qv (S := Unit) (fun _ => True) (fun _ => zPo D ca ad lnC K.2 L F B A) A
def f_S_waitWord_42 (K : zK)  (F : zF) (B : zB) : zO := some (0, F, B)
set_option maxHeartbeats 4000000 in
set_option maxRecDepth 100000 in
theorem b_S_waitWord_42 {D : va_G} {ca : Nat → ClassId} {ad : Nat → Int → Nat → Nat} {L : List Nat} {aS vS : Nat → Nat} {A : Nat → Prop} {p : Program} {l : Launch} {e : Env} {s : State} {m : MethodId} {args : Array Value} {below : List Frame} {meth : Method} {c : Code} {K : zK} {r : Int} {F9 : zF} {B9 : zB} (X : zX D ca L aS vS A p s m args meth c prog_1_method_3_code 4 (Option.none : Option Jvm.ClassFile.FieldType) "StaveHouse")  {F : zF} {B : zB} {H : Heap} {locs : List Loc} {ls : Array Slot} (hf : f_S_waitWord_42 K  F B = some (r, F9, B9)) (hZ : zH D ca ad lnC K.2 L F B A H) (hS : va_S A s.heap H locs) (hl : lv_has ls 4 []) : W p l e ({ frames := 0, cells := 0, slots := 0, locals := 0 } : Room) s m args below meth c H locs 0 0 (MQ below (Q_S_waitWord K D ca ad L r F9 B9 A) args s 0 0 A) (F0 m 42 ls []) := by
  obtain ⟨hx, hb, hr, hml, hown, hts, hlk, hK, hA, hL, hX⟩ := id X
  replace hf : (some (0, F, B)) = some (r, F9, B9) := hf
  cases hf
  exact W.vret hx hb hr (fun t ht hW => ⟨⟨(), rfl, trivial, by rw [ht]; exact hZ, va_K.moved hW.alike hK⟩, hS.F ht⟩) hS.2.2 (D_177 W_prog_1_method_3_code_32 10 rfl rfl) hlk

def f_S_waitWord_2 (K : zK) : Nat → Int → Int → Int → Int → zF → zB → zO
  | 0, _, _, _, _, _, _ => none
  | n + 1, l3, l0, l1, l2, F, B => if r32 l3 then (if 4 ≤ l3 then f_S_waitWord_42 K F B else if r32 (l1 + l3) then (if 20 ≤ (l1 + l3) then f_S_waitWord_42 K F B else if 0 ≤ l0 ∧ l0 < K.2 12 then if 0 ≤ (l1 + l3) ∧ (l1 + l3) < 20 then f_S_waitWord_2 K n (l3 + 1) l0 l1 l2 F (zup4 B 12 l0 1 (l1 + l3) (zand (zushr l2 (24 - (8 * l3))) 255)) else none else none) else none) else none
set_option maxHeartbeats 4000000 in
set_option maxRecDepth 100000 in
theorem b_S_waitWord_2 {D : va_G} {ca : Nat → ClassId} {ad : Nat → Int → Nat → Nat} {L : List Nat} {aS vS : Nat → Nat} {A : Nat → Prop} {p : Program} {l : Launch} {e : Env} {s : State} {m : MethodId} {args : Array Value} {below : List Frame} {meth : Method} {c : Code} {K : zK} {r : Int} {F9 : zF} {B9 : zB} (X : zX D ca L aS vS A p s m args meth c prog_1_method_3_code 4 (Option.none : Option Jvm.ClassFile.FieldType) "StaveHouse") : ∀ {n : Nat} {l3 : Int} {l0 : Int} {l1 : Int} {l2 : Int} {F : zF} {B : zB} {H : Heap} {locs : List Loc} {ls : Array Slot}, f_S_waitWord_2 K n l3 l0 l1 l2 F B = some (r, F9, B9) → zH D ca ad lnC K.2 L F B A H → va_S A s.heap H locs → lv_has ls 4 [(3, .int (iI l3)), (0, .ref (ad 12 l0 0)), (1, .int (iI l1)), (2, .int (iI l2))] → W p l e ({ frames := 0, cells := 0, slots := 0, locals := 0 } : Room) s m args below meth c H locs 0 0 (MQ below (Q_S_waitWord K D ca ad L r F9 B9 A) args s 0 0 A) (F0 m 2 ls []) := by
  obtain ⟨hx, hb, hr, hml, hown, hts, hlk, hK, hA, hL, hX⟩ := id X
  intro n
  induction n with
  | zero =>
    intros
    rename_i hf _ _ _
    cases hf
  | succ n ih =>
    intro l3 l0 l1 l2 F B H locs ls hf hZ hS hl
    replace hf : (if r32 l3 then (if 4 ≤ l3 then f_S_waitWord_42 K F B else if r32 (l1 + l3) then (if 20 ≤ (l1 + l3) then f_S_waitWord_42 K F B else if 0 ≤ l0 ∧ l0 < K.2 12 then if 0 ≤ (l1 + l3) ∧ (l1 + l3) < 20 then f_S_waitWord_2 K n (l3 + 1) l0 l1 l2 F (zup4 B 12 l0 1 (l1 + l3) (zand (zushr l2 (24 - (8 * l3))) 255)) else none else none) else none) else none) = some (r, F9, B9) := hf
    refine lv_iload_n hx hb (D_29 W_prog_1_method_3_code_0 2 rfl rfl) rfl (lv_at hl 0 rfl) ?_
    refine lv_iconst (v := iI 4) hx hb (D_7 W_prog_1_method_3_code_0 3 rfl rfl) rfl ?_
    obtain ⟨g1, hf⟩ := gif hf
    refine zge (tgt := 42) hx hb g1 (by decide) (D_162 W_prog_1_method_3_code_0 4 rfl rfl rfl) (by decide) (fun h2 => ?_) (fun h2 => ?_)
    · replace hf := gpos hf h2
      exact b_S_waitWord_42 X hf hZ hS (lv_sub hl [] rfl)
    · replace hf := gneg hf h2
      refine lv_iload_n hx hb (D_27 W_prog_1_method_3_code_0 7 rfl rfl) rfl (lv_at hl 2 rfl) ?_
      refine lv_iload_n hx hb (D_29 W_prog_1_method_3_code_0 8 rfl rfl) rfl (lv_at hl 0 rfl) ?_
      refine zadd hx hb (D_96 W_prog_1_method_3_code_0 9 rfl rfl) ?_
      refine lv_bipush (v := iI 20) hx hb (D_16 W_prog_1_method_3_code_0 10 rfl rfl rfl) (by decide) ?_
      obtain ⟨g3, hf⟩ := gif hf
      refine zge (tgt := 42) hx hb g3 (by decide) (D_162 W_prog_1_method_3_code_0 12 rfl rfl rfl) (by decide) (fun h4 => ?_) (fun h4 => ?_)
      · replace hf := gpos hf h4
        exact b_S_waitWord_42 X hf hZ hS (lv_sub hl [] rfl)
      · replace hf := gneg hf h4
        refine lv_aload_n hx hb (D_42 W_prog_1_method_3_code_0 15 rfl rfl) rfl (lv_at hl 1 rfl) ?_
        obtain ⟨g5, hf⟩ := gif hf
        refine zget (ci := 12) (C := RX12) (T := TX12) (v := .ref (ad 12 l0 (1 + 1))) (k := 1) hx hb hts inW_12 hown hK hZ g5.1 g5.2 rfl (by decide) k_2_128 rfl (D_180 W_prog_1_method_3_code_0 16 rfl rfl rfl) ?_
        refine lv_iload_n hx hb (D_27 W_prog_1_method_3_code_0 19 rfl rfl) rfl (lv_at hl 2 rfl) ?_
        refine lv_iload_n hx hb (D_29 W_prog_1_method_3_code_0 20 rfl rfl) rfl (lv_at hl 0 rfl) ?_
        refine zadd hx hb (D_96 W_prog_1_method_3_code_0 21 rfl rfl) ?_
        refine lv_iload_n hx hb (D_28 W_prog_1_method_3_code_0 22 rfl rfl) rfl (lv_at hl 3 rfl) ?_
        refine lv_bipush (v := iI 24) hx hb (D_16 W_prog_1_method_3_code_0 23 rfl rfl rfl) (by decide) ?_
        refine lv_bipush (v := iI 8) hx hb (D_16 W_prog_1_method_3_code_0 25 rfl rfl rfl) (by decide) ?_
        refine lv_iload_n hx hb (D_29 W_prog_1_method_3_code_0 27 rfl rfl) rfl (lv_at hl 0 rfl) ?_
        refine zmul hx hb (D_104 W_prog_1_method_3_code_0 28 rfl rfl) ?_
        refine zsub hx hb (D_100 W_prog_1_method_3_code_0 29 rfl rfl) ?_
        refine zushr_r hx hb (D_124 W_prog_1_method_3_code_0 30 rfl rfl) ?_
        refine lv_sipush (v := iI 255) hx hb (D_17 W_prog_1_method_3_code_0 31 rfl rfl rfl) (by decide) ?_
        refine zand_r hx hb (D_126 W_prog_1_method_3_code_32 2 rfl rfl) ?_
        obtain ⟨g6, hf⟩ := gif hf
        refine zast (ci := 12) (k := 1) hx hb hK rfl hZ hS g5.1 g5.2 rfl (Nat.le_of_ble_eq_true rfl) g6.1 g6.2 (D_79 W_prog_1_method_3_code_32 3 rfl rfl) (fun H7 locs7 hZ7 hS7 => ?_)
        refine lv_iinc (v := iI (l3 + 1)) (lv' := [(3, .int (iI (l3 + 1))), (0, .ref (ad 12 l0 0)), (1, .int (iI l1)), (2, .int (iI l2))]) hx hb d_1_3_36 hl (k := 0) rfl (iI_add _ 1) (by decide) rfl (fun ls hl => ?_)
        refine lv_goto (tgt := 2) hx hb (D_167 W_prog_1_method_3_code_32 7 rfl rfl rfl) (by decide) ?_
        exact ih hf hZ7 hS7 (lv_sub hl [0, 1, 2, 3] rfl)

def f_S_waitWord (K : zK) (l0 : Int) (l1 : Int) (l2 : Int) (F : zF) (B : zB) : zO := f_S_waitWord_2 K K.1 0 l0 l1 l2 F B
set_option maxHeartbeats 4000000 in
set_option maxRecDepth 100000 in
theorem c_S_waitWord {l : Launch} {D : va_G} {ca : Nat → ClassId} {ad : Nat → Int → Nat → Nat} {L : List Nat} {aS vS : Nat → Nat} {sz : Nat} {K : zK}  {l0 : Int} {l1 : Int} {l2 : Int} {F F9 : zF} {B B9 : zB} {r : Int} (hf : f_S_waitWord K l0 l1 l2 F B = some (r, F9, B9)) : Met l ({ cls := "StaveHouse", name := "waitWord", desc := "(II)V" } : Jvm.MethodName) (Cond.code ({ cls := "StaveHouse", name := "waitWord", desc := "(II)V" } : Jvm.MethodName) prog_1_method_3_code 4 (Option.none : Option Jvm.ClassFile.FieldType) :: wAll) ({ frames := 0, cells := 0, slots := 0, locals := 0 } : Room) (va_Pc [.ref (ad 12 l0 0), .int (iI l1), .int (iI l2)] (zPre D ca ad lnC K.2 L aS vS F B sz)) (Q_S_waitWord K D ca ad L r F9 B9 (zA L sz)) 0 0 (zA L sz) := by
  refine zMet (Qc := Q_S_waitWord K D ca ad L r F9 B9) (lv := [(0, .ref (ad 12 l0 0)), (1, .int (iI l1)), (2, .int (iI l2))]) (by decide) (Nat.le_of_ble_eq_true rfl) rfl (fun A p e s m below meth c ls X hZ hS hl => ?_)
  obtain ⟨hx, hb, hr, hml, hown, hts, hlk, hK, hA, hL, hX⟩ := id X
  replace hf : (f_S_waitWord_2 K K.1 0 l0 l1 l2 F B) = some (r, F9, B9) := hf
  refine lv_iconst (v := iI 0) hx hb (D_3 W_prog_1_method_3_code_0 0 rfl rfl) rfl ?_
  refine lv_istore_n (lv' := [(3, .int (iI 0)), (0, .ref (ad 12 l0 0)), (1, .int (iI l1)), (2, .int (iI l2))]) hx hb (D_62 W_prog_1_method_3_code_0 1 rfl rfl) rfl hl (by decide) rfl (fun ls hl => ?_)
  exact b_S_waitWord_2 X hf hZ hS (lv_sub hl [0, 1, 2, 3] rfl)

abbrev Q_ByteRow_put (K : zK) (D : va_G) (ca : Nat → ClassId) (ad : Nat → Int → Nat → Nat) (L : List Nat) (r : Int) (F : zF) (B : zB) (A : Nat → Prop) : Array Value → State → Outcome → State → Prop := va_Qv (S := Unit) (fun _ => True) (fun _ => zPo D ca ad lnC K.2 L F B A) A
def f_ByteRow_put (K : zK) (l0 : Int) (l1 : Int) (F : zF) (B : zB) : zO := if 0 ≤ l0 ∧ l0 < K.2 0 then if r32 (F 0 l0 1) then if r32 (lnC 0 l0 0 : Int) then (if (F 0 l0 1) < (lnC 0 l0 0 : Int) then if 0 ≤ (F 0 l0 1) ∧ (F 0 l0 1) < (lnC 0 l0 0 : Int) then some (0, (zup3 F 0 l0 1 ((F 0 l0 1) + 1)), (zup4 B 0 l0 0 (F 0 l0 1) (zand l1 255))) else none else some (0, (zup3 F 0 l0 2 1), B)) else none else none else none
set_option maxHeartbeats 4000000 in
set_option maxRecDepth 100000 in
theorem c_ByteRow_put {l : Launch} {D : va_G} {ca : Nat → ClassId} {ad : Nat → Int → Nat → Nat} {L : List Nat} {aS vS : Nat → Nat} {sz : Nat} {K : zK}  {l0 : Int} {l1 : Int} {F F9 : zF} {B B9 : zB} {r : Int} (hf : f_ByteRow_put K l0 l1 F B = some (r, F9, B9)) : Met l ({ cls := "StaveHouse$ByteRow", name := "put", desc := "(I)V" } : Jvm.MethodName) (Cond.code ({ cls := "StaveHouse$ByteRow", name := "put", desc := "(I)V" } : Jvm.MethodName) prog_2_method_4_code 2 (Option.none : Option Jvm.ClassFile.FieldType) :: wAll) ({ frames := 0, cells := 0, slots := 0, locals := 0 } : Room) (va_Pc [.ref (ad 0 l0 0), .int (iI l1)] (zPre D ca ad lnC K.2 L aS vS F B sz)) (Q_ByteRow_put K D ca ad L r F9 B9 (zA L sz)) 0 0 (zA L sz) := by
  refine zMet (Qc := Q_ByteRow_put K D ca ad L r F9 B9) (lv := [(0, .ref (ad 0 l0 0)), (1, .int (iI l1))]) (by decide) (Nat.le_of_ble_eq_true rfl) rfl (fun A p e s m below meth c ls X hZ hS hl => ?_)
  obtain ⟨hx, hb, hr, hml, hown, hts, hlk, hK, hA, hL, hX⟩ := id X
  replace hf : (if 0 ≤ l0 ∧ l0 < K.2 0 then if r32 (F 0 l0 1) then if r32 (lnC 0 l0 0 : Int) then (if (F 0 l0 1) < (lnC 0 l0 0 : Int) then if 0 ≤ (F 0 l0 1) ∧ (F 0 l0 1) < (lnC 0 l0 0 : Int) then some (0, (zup3 F 0 l0 1 ((F 0 l0 1) + 1)), (zup4 B 0 l0 0 (F 0 l0 1) (zand l1 255))) else none else some (0, (zup3 F 0 l0 2 1), B)) else none else none else none) = some (r, F9, B9) := hf
  refine lv_aload_n hx hb (D_42 W_prog_2_method_4_code_0 0 rfl rfl) rfl (lv_at hl 0 rfl) ?_
  obtain ⟨g1, hf⟩ := gif hf
  refine zget (ci := 0) (C := RX0) (T := TX0) (v := .int (iI (F 0 l0 1))) (k := 1) hx hb hts inW_0 hown hK hZ g1.1 g1.2 rfl (by decide) k_1_42 rfl (D_180 W_prog_2_method_4_code_0 1 rfl rfl rfl) ?_
  refine lv_aload_n hx hb (D_42 W_prog_2_method_4_code_0 4 rfl rfl) rfl (lv_at hl 0 rfl) ?_
  refine zget (ci := 0) (C := RX0) (T := TX0) (v := .ref (ad 0 l0 (0 + 1))) (k := 0) hx hb hts inW_0 hown hK hZ g1.1 g1.2 rfl (by decide) k_1_41 rfl (D_180 W_prog_2_method_4_code_0 5 rfl rfl rfl) ?_
  refine zlen (t := 0) (x := 0) (ci := 0) (k := 0) hx hb hK rfl (fun _ _ => ⟨_, rfl⟩) hZ g1.1 g1.2 rfl (D_190 W_prog_2_method_4_code_0 8 rfl rfl) ?_
  refine W.eq (g2 := F0 m 9 ls [.int (iI (lnC 0 l0 0 : Int)), .int (iI (F 0 l0 1))]) rfl ?_
  obtain ⟨g2, hf⟩ := gif hf
  obtain ⟨g3, hf⟩ := gif hf
  refine zlt (tgt := 18) hx hb g2 g3 (D_161 W_prog_2_method_4_code_0 9 rfl rfl rfl) (by decide) (fun h4 => ?_) (fun h4 => ?_)
  · replace hf := gpos hf h4
    refine lv_aload_n hx hb (D_42 W_prog_2_method_4_code_0 18 rfl rfl) rfl (lv_at hl 0 rfl) ?_
    refine zget (ci := 0) (C := RX0) (T := TX0) (v := .ref (ad 0 l0 (0 + 1))) (k := 0) hx hb hts inW_0 hown hK hZ g1.1 g1.2 rfl (by decide) k_1_41 rfl (D_180 W_prog_2_method_4_code_0 19 rfl rfl rfl) ?_
    refine lv_aload_n hx hb (D_42 W_prog_2_method_4_code_0 22 rfl rfl) rfl (lv_at hl 0 rfl) ?_
    refine zget (ci := 0) (C := RX0) (T := TX0) (v := .int (iI (F 0 l0 1))) (k := 1) hx hb hts inW_0 hown hK hZ g1.1 g1.2 rfl (by decide) k_1_42 rfl (D_180 W_prog_2_method_4_code_0 23 rfl rfl rfl) ?_
    refine lv_iload_n hx hb (D_27 W_prog_2_method_4_code_0 26 rfl rfl) rfl (lv_at hl 1 rfl) ?_
    refine lv_sipush (v := iI 255) hx hb (D_17 W_prog_2_method_4_code_0 27 rfl rfl rfl) (by decide) ?_
    refine zand_r hx hb (D_126 W_prog_2_method_4_code_0 30 rfl rfl) ?_
    obtain ⟨g5, hf⟩ := gif hf
    refine zast (ci := 0) (k := 0) hx hb hK rfl hZ hS g1.1 g1.2 rfl lnC0_le g5.1 g5.2 (D_79 W_prog_2_method_4_code_0 31 rfl rfl) (fun H6 locs6 hZ6 hS6 => ?_)
    refine lv_aload_n hx hb (D_42 W_prog_2_method_4_code_32 0 rfl rfl) rfl (lv_at hl 0 rfl) ?_
    refine lv_dup hx hb (D_89 W_prog_2_method_4_code_32 1 rfl rfl) rfl ?_
    refine zget (ci := 0) (C := RX0) (T := TX0) (v := .int (iI (F 0 l0 1))) (k := 1) hx hb hts inW_0 hown hK hZ6 g1.1 g1.2 rfl (by decide) k_1_42 rfl (D_180 W_prog_2_method_4_code_32 2 rfl rfl rfl) ?_
    refine lv_iconst (v := iI 1) hx hb (D_4 W_prog_2_method_4_code_32 5 rfl rfl) rfl ?_
    refine zadd hx hb (D_96 W_prog_2_method_4_code_32 6 rfl rfl) ?_
    refine zput (ci := 0) (C := RX0) (T := TX0) (k := 1) (v := ((F 0 l0 1) + 1)) (w := .int (iI ((F 0 l0 1) + 1))) hx hb hts inW_0 tyX0 tyX0_ok nmX0 hown hK hZ6 hS6 g1.1 g1.2 rfl (by decide) k_1_42 rfl (fun G h => congrArg (fun q => Value.int (iI q)) h) rfl rfl (zno (by decide)) (D_181 W_prog_2_method_4_code_32 7 rfl rfl rfl) (fun H7 locs7 hZ7 hS7 => ?_)
    cases hf
    exact W.vret hx hb hr (fun t ht hW => ⟨⟨(), rfl, trivial, by rw [ht]; exact hZ7, va_K.moved hW.alike hK⟩, hS7.F ht⟩) hS7.2.2 (D_177 W_prog_2_method_4_code_32 10 rfl rfl) hlk
  · replace hf := gneg hf h4
    refine lv_aload_n hx hb (D_42 W_prog_2_method_4_code_0 12 rfl rfl) rfl (lv_at hl 0 rfl) ?_
    refine lv_iconst (v := iI 1) hx hb (D_4 W_prog_2_method_4_code_0 13 rfl rfl) rfl ?_
    refine zput (ci := 0) (C := RX0) (T := TX0) (k := 2) (v := 1) (w := .int (iI 1)) hx hb hts inW_0 tyX0 tyX0_ok nmX0 hown hK hZ hS g1.1 g1.2 rfl (by decide) k_1_48 rfl (fun G h => congrArg (fun q => Value.int (iI q)) h) rfl rfl (zno (by decide)) (D_181 W_prog_2_method_4_code_0 14 rfl rfl rfl) (fun H8 locs8 hZ8 hS8 => ?_)
    cases hf
    exact W.vret hx hb hr (fun t ht hW => ⟨⟨(), rfl, trivial, by rw [ht]; exact hZ8, va_K.moved hW.alike hK⟩, hS8.F ht⟩) hS8.2.2 (D_177 W_prog_2_method_4_code_0 17 rfl rfl) hlk

abbrev Q_Piece_clear (K : zK) (D : va_G) (ca : Nat → ClassId) (ad : Nat → Int → Nat → Nat) (L : List Nat) (r : Int) (F : zF) (B : zB) (A : Nat → Prop) : Array Value → State → Outcome → State → Prop := va_Qv (S := Unit) (fun _ => True) (fun _ => zPo D ca ad lnC K.2 L F B A) A
def f_Piece_clear_66 (K : zK)  (F : zF) (B : zB) : zO := some (0, F, B)
set_option maxHeartbeats 4000000 in
set_option maxRecDepth 100000 in
theorem b_Piece_clear_66 {D : va_G} {ca : Nat → ClassId} {ad : Nat → Int → Nat → Nat} {L : List Nat} {aS vS : Nat → Nat} {A : Nat → Prop} {p : Program} {l : Launch} {e : Env} {s : State} {m : MethodId} {args : Array Value} {below : List Frame} {meth : Method} {c : Code} {K : zK} {r : Int} {F9 : zF} {B9 : zB} (X : zX D ca L aS vS A p s m args meth c prog_8_method_2_code 1 (Option.none : Option Jvm.ClassFile.FieldType) "StaveHouse$Piece")  {F : zF} {B : zB} {H : Heap} {locs : List Loc} {ls : Array Slot} (hf : f_Piece_clear_66 K  F B = some (r, F9, B9)) (hZ : zH D ca ad lnC K.2 L F B A H) (hS : va_S A s.heap H locs) (hl : lv_has ls 1 []) : W p l e ({ frames := 0, cells := 0, slots := 0, locals := 0 } : Room) s m args below meth c H locs 0 0 (MQ below (Q_Piece_clear K D ca ad L r F9 B9 A) args s 0 0 A) (F0 m 66 ls []) := by
  obtain ⟨hx, hb, hr, hml, hown, hts, hlk, hK, hA, hL, hX⟩ := id X
  replace hf : (some (0, F, B)) = some (r, F9, B9) := hf
  cases hf
  exact W.vret hx hb hr (fun t ht hW => ⟨⟨(), rfl, trivial, by rw [ht]; exact hZ, va_K.moved hW.alike hK⟩, hS.F ht⟩) hS.2.2 (D_177 W_prog_8_method_2_code_64 2 rfl rfl) hlk

def f_Piece_clear (K : zK) (l0 : Int) (F : zF) (B : zB) : zO := if 0 ≤ l0 ∧ l0 < K.2 6 then (if (F 6 l0 8) < 0 then f_Piece_clear_66 K (zup3 (zup3 (zup3 (zup3 (zup3 (zup3 (zup3 (zup3 (zup3 (zup3 F 6 l0 1 0) 6 l0 2 0) 6 l0 3 0) 6 l0 4 4) 6 l0 5 4) 6 l0 6 120) 6 l0 7 0) 6 l0 10 0) 6 l0 11 0) 6 l0 13 0) B else if 0 ≤ (F 6 l0 8) ∧ (F 6 l0 8) < K.2 2 then f_Piece_clear_66 K (zup3 (zup3 (zup3 (zup3 (zup3 (zup3 (zup3 (zup3 (zup3 (zup3 (zup3 F 6 l0 1 0) 6 l0 2 0) 6 l0 3 0) 6 l0 4 4) 6 l0 5 4) 6 l0 6 120) 6 l0 7 0) 6 l0 10 0) 6 l0 11 0) 6 l0 13 0) 2 (F 6 l0 8) 0 0) B else none) else none
set_option maxHeartbeats 4000000 in
set_option maxRecDepth 100000 in
theorem c_Piece_clear {l : Launch} {D : va_G} {ca : Nat → ClassId} {ad : Nat → Int → Nat → Nat} {L : List Nat} {aS vS : Nat → Nat} {sz : Nat} {K : zK}  {l0 : Int} {F F9 : zF} {B B9 : zB} {r : Int} (hf : f_Piece_clear K l0 F B = some (r, F9, B9)) : Met l ({ cls := "StaveHouse$Piece", name := "clear", desc := "()V" } : Jvm.MethodName) (Cond.code ({ cls := "StaveHouse$Piece", name := "clear", desc := "()V" } : Jvm.MethodName) prog_8_method_2_code 1 (Option.none : Option Jvm.ClassFile.FieldType) :: wAll) ({ frames := 0, cells := 0, slots := 0, locals := 0 } : Room) (va_Pc [.ref (ad 6 l0 0)] (zPre D ca ad lnC K.2 L aS vS F B sz)) (Q_Piece_clear K D ca ad L r F9 B9 (zA L sz)) 0 0 (zA L sz) := by
  refine zMet (Qc := Q_Piece_clear K D ca ad L r F9 B9) (lv := [(0, .ref (ad 6 l0 0))]) (by decide) (Nat.le_of_ble_eq_true rfl) rfl (fun A p e s m below meth c ls X hZ hS hl => ?_)
  obtain ⟨hx, hb, hr, hml, hown, hts, hlk, hK, hA, hL, hX⟩ := id X
  replace hf : (if 0 ≤ l0 ∧ l0 < K.2 6 then (if (F 6 l0 8) < 0 then f_Piece_clear_66 K (zup3 (zup3 (zup3 (zup3 (zup3 (zup3 (zup3 (zup3 (zup3 (zup3 F 6 l0 1 0) 6 l0 2 0) 6 l0 3 0) 6 l0 4 4) 6 l0 5 4) 6 l0 6 120) 6 l0 7 0) 6 l0 10 0) 6 l0 11 0) 6 l0 13 0) B else if 0 ≤ (F 6 l0 8) ∧ (F 6 l0 8) < K.2 2 then f_Piece_clear_66 K (zup3 (zup3 (zup3 (zup3 (zup3 (zup3 (zup3 (zup3 (zup3 (zup3 (zup3 F 6 l0 1 0) 6 l0 2 0) 6 l0 3 0) 6 l0 4 4) 6 l0 5 4) 6 l0 6 120) 6 l0 7 0) 6 l0 10 0) 6 l0 11 0) 6 l0 13 0) 2 (F 6 l0 8) 0 0) B else none) else none) = some (r, F9, B9) := hf
  refine lv_aload_n hx hb (D_42 W_prog_8_method_2_code_0 0 rfl rfl) rfl (lv_at hl 0 rfl) ?_
  refine lv_iconst (v := iI 0) hx hb (D_3 W_prog_8_method_2_code_0 1 rfl rfl) rfl ?_
  obtain ⟨g1, hf⟩ := gif hf
  refine zput (ci := 6) (C := RX6) (T := TX6) (k := 1) (v := 0) (w := .int (iI 0)) hx hb hts inW_6 tyX6 tyX6_ok nmX6 hown hK hZ hS g1.1 g1.2 rfl (by decide) k_2_190 rfl (fun G h => congrArg (fun q => Value.int (iI q)) h) rfl rfl (zno (by decide)) (D_181 W_prog_8_method_2_code_0 2 rfl rfl rfl) (fun H2 locs2 hZ2 hS2 => ?_)
  refine lv_aload_n hx hb (D_42 W_prog_8_method_2_code_0 5 rfl rfl) rfl (lv_at hl 0 rfl) ?_
  refine lv_iconst (v := iI 0) hx hb (D_3 W_prog_8_method_2_code_0 6 rfl rfl) rfl ?_
  refine zput (ci := 6) (C := RX6) (T := TX6) (k := 2) (v := 0) (w := .int (iI 0)) hx hb hts inW_6 tyX6 tyX6_ok nmX6 hown hK hZ2 hS2 g1.1 g1.2 rfl (by decide) k_2_195 rfl (fun G h => congrArg (fun q => Value.int (iI q)) h) rfl rfl (zno (by decide)) (D_181 W_prog_8_method_2_code_0 7 rfl rfl rfl) (fun H3 locs3 hZ3 hS3 => ?_)
  refine lv_aload_n hx hb (D_42 W_prog_8_method_2_code_0 10 rfl rfl) rfl (lv_at hl 0 rfl) ?_
  refine lv_iconst (v := iI 0) hx hb (D_3 W_prog_8_method_2_code_0 11 rfl rfl) rfl ?_
  refine zput (ci := 6) (C := RX6) (T := TX6) (k := 3) (v := 0) (w := .int (iI 0)) hx hb hts inW_6 tyX6 tyX6_ok nmX6 hown hK hZ3 hS3 g1.1 g1.2 rfl (by decide) k_2_202 rfl (fun G h => congrArg (fun q => Value.int (iI q)) h) rfl rfl (zno (by decide)) (D_181 W_prog_8_method_2_code_0 12 rfl rfl rfl) (fun H4 locs4 hZ4 hS4 => ?_)
  refine lv_aload_n hx hb (D_42 W_prog_8_method_2_code_0 15 rfl rfl) rfl (lv_at hl 0 rfl) ?_
  refine lv_iconst (v := iI 4) hx hb (D_7 W_prog_8_method_2_code_0 16 rfl rfl) rfl ?_
  refine zput (ci := 6) (C := RX6) (T := TX6) (k := 4) (v := 4) (w := .int (iI 4)) hx hb hts inW_6 tyX6 tyX6_ok nmX6 hown hK hZ4 hS4 g1.1 g1.2 rfl (by decide) k_2_207 rfl (fun G h => congrArg (fun q => Value.int (iI q)) h) rfl rfl (zno (by decide)) (D_181 W_prog_8_method_2_code_0 17 rfl rfl rfl) (fun H5 locs5 hZ5 hS5 => ?_)
  refine lv_aload_n hx hb (D_42 W_prog_8_method_2_code_0 20 rfl rfl) rfl (lv_at hl 0 rfl) ?_
  refine lv_iconst (v := iI 4) hx hb (D_7 W_prog_8_method_2_code_0 21 rfl rfl) rfl ?_
  refine zput (ci := 6) (C := RX6) (T := TX6) (k := 5) (v := 4) (w := .int (iI 4)) hx hb hts inW_6 tyX6 tyX6_ok nmX6 hown hK hZ5 hS5 g1.1 g1.2 rfl (by decide) k_2_212 rfl (fun G h => congrArg (fun q => Value.int (iI q)) h) rfl rfl (zno (by decide)) (D_181 W_prog_8_method_2_code_0 22 rfl rfl rfl) (fun H6 locs6 hZ6 hS6 => ?_)
  refine lv_aload_n hx hb (D_42 W_prog_8_method_2_code_0 25 rfl rfl) rfl (lv_at hl 0 rfl) ?_
  refine lv_bipush (v := iI 120) hx hb (D_16 W_prog_8_method_2_code_0 26 rfl rfl rfl) (by decide) ?_
  refine zput (ci := 6) (C := RX6) (T := TX6) (k := 6) (v := 120) (w := .int (iI 120)) hx hb hts inW_6 tyX6 tyX6_ok nmX6 hown hK hZ6 hS6 g1.1 g1.2 rfl (by decide) k_2_217 rfl (fun G h => congrArg (fun q => Value.int (iI q)) h) rfl rfl (zno (by decide)) (D_181 W_prog_8_method_2_code_0 28 rfl rfl rfl) (fun H7 locs7 hZ7 hS7 => ?_)
  refine lv_aload_n hx hb (D_42 W_prog_8_method_2_code_0 31 rfl rfl) rfl (lv_at hl 0 rfl) ?_
  refine lv_iconst (v := iI 0) hx hb (D_3 W_prog_8_method_2_code_32 0 rfl rfl) rfl ?_
  refine zput (ci := 6) (C := RX6) (T := TX6) (k := 7) (v := 0) (w := .int (iI 0)) hx hb hts inW_6 tyX6 tyX6_ok nmX6 hown hK hZ7 hS7 g1.1 g1.2 rfl (by decide) k_2_222 rfl (fun G h => congrArg (fun q => Value.int (iI q)) h) rfl rfl (zno (by decide)) (D_181 W_prog_8_method_2_code_32 1 rfl rfl rfl) (fun H8 locs8 hZ8 hS8 => ?_)
  refine lv_aload_n hx hb (D_42 W_prog_8_method_2_code_32 4 rfl rfl) rfl (lv_at hl 0 rfl) ?_
  refine lv_iconst (v := iI 0) hx hb (D_3 W_prog_8_method_2_code_32 5 rfl rfl) rfl ?_
  refine zput (ci := 6) (C := RX6) (T := TX6) (k := 10) (v := 0) (w := .int (iI 0)) hx hb hts inW_6 tyX6 tyX6_ok nmX6 hown hK hZ8 hS8 g1.1 g1.2 rfl (by decide) k_2_228 rfl (fun G h => congrArg (fun q => Value.int (iI q)) h) rfl rfl (zno (by decide)) (D_181 W_prog_8_method_2_code_32 6 rfl rfl rfl) (fun H9 locs9 hZ9 hS9 => ?_)
  refine lv_aload_n hx hb (D_42 W_prog_8_method_2_code_32 9 rfl rfl) rfl (lv_at hl 0 rfl) ?_
  refine lv_iconst (v := iI 0) hx hb (D_3 W_prog_8_method_2_code_32 10 rfl rfl) rfl ?_
  refine zput (ci := 6) (C := RX6) (T := TX6) (k := 11) (v := 0) (w := .int (iI 0)) hx hb hts inW_6 tyX6 tyX6_ok nmX6 hown hK hZ9 hS9 g1.1 g1.2 rfl (by decide) k_2_230 rfl (fun G h => congrArg (fun q => Value.int (iI q)) h) rfl rfl (zno (by decide)) (D_181 W_prog_8_method_2_code_32 11 rfl rfl rfl) (fun H10 locs10 hZ10 hS10 => ?_)
  refine lv_aload_n hx hb (D_42 W_prog_8_method_2_code_32 14 rfl rfl) rfl (lv_at hl 0 rfl) ?_
  refine lv_iconst (v := iI 0) hx hb (D_3 W_prog_8_method_2_code_32 15 rfl rfl) rfl ?_
  refine zput (ci := 6) (C := RX6) (T := TX6) (k := 13) (v := 0) (w := .int (iI 0)) hx hb hts inW_6 tyX6 tyX6_ok nmX6 hown hK hZ10 hS10 g1.1 g1.2 rfl (by decide) k_2_232 rfl (fun G h => congrArg (fun q => Value.int (iI q)) h) rfl rfl (zno (by decide)) (D_181 W_prog_8_method_2_code_32 16 rfl rfl rfl) (fun H11 locs11 hZ11 hS11 => ?_)
  refine lv_aload_n hx hb (D_42 W_prog_8_method_2_code_32 19 rfl rfl) rfl (lv_at hl 0 rfl) ?_
  refine zget (ci := 6) (C := RX6) (T := TX6) (v := va_rf (zrf ad 2 (F 6 l0 8))) (k := 8) hx hb hts inW_6 hown hK hZ11 g1.1 g1.2 rfl (by decide) k_2_224 (congrArg (fun q : Int => va_rf (zrf ad 2 q)) (show (zup3 (zup3 (zup3 (zup3 (zup3 (zup3 (zup3 (zup3 (zup3 (zup3 F 6 l0 1 0) 6 l0 2 0) 6 l0 3 0) 6 l0 4 4) 6 l0 5 4) 6 l0 6 120) 6 l0 7 0) 6 l0 10 0) 6 l0 11 0) 6 l0 13 0) 6 l0 8 = F 6 l0 8 by simp [zup3])) (D_180 W_prog_8_method_2_code_32 20 rfl rfl rfl) ?_
  refine zifnull (tgt := 66) hx hb (D_198 W_prog_8_method_2_code_32 23 rfl rfl rfl) (by decide) (fun h12 => ?_) (fun h12 => ?_)
  · replace hf := gpos hf h12
    exact b_Piece_clear_66 X hf hZ11 hS11 (lv_sub hl [] rfl)
  · replace hf := gneg hf h12
    refine lv_aload_n hx hb (D_42 W_prog_8_method_2_code_32 26 rfl rfl) rfl (lv_at hl 0 rfl) ?_
    refine zget (ci := 6) (C := RX6) (T := TX6) (v := va_rf (zrf ad 2 (F 6 l0 8))) (k := 8) hx hb hts inW_6 hown hK hZ11 g1.1 g1.2 rfl (by decide) k_2_224 (congrArg (fun q : Int => va_rf (zrf ad 2 q)) (show (zup3 (zup3 (zup3 (zup3 (zup3 (zup3 (zup3 (zup3 (zup3 (zup3 F 6 l0 1 0) 6 l0 2 0) 6 l0 3 0) 6 l0 4 4) 6 l0 5 4) 6 l0 6 120) 6 l0 7 0) 6 l0 10 0) 6 l0 11 0) 6 l0 13 0) 6 l0 8 = F 6 l0 8 by simp [zup3])) (D_180 W_prog_8_method_2_code_32 27 rfl rfl rfl) ?_
    refine lv_iconst (v := iI 0) hx hb (D_3 W_prog_8_method_2_code_32 30 rfl rfl) rfl ?_
    obtain ⟨g13, hf⟩ := gif hf
    refine W.eq (g2 := F0 m 63 ls [.int (iI 0), .ref (ad 2 (F 6 l0 8) 0)]) (by rw [zrf_pos (ad := ad) (t := 2) g13.1]; try rfl) ?_
    refine zput (ci := 2) (C := RX2) (T := TX2) (k := 0) (v := 0) (w := .int (iI 0)) hx hb hts inW_2 tyX2 tyX2_ok nmX2 hown hK hZ11 hS11 g13.1 g13.2 rfl (by decide) k_6_216 rfl (fun G h => congrArg (fun q => Value.int (iI q)) h) rfl rfl (zno (by decide)) (D_181 W_prog_8_method_2_code_32 31 rfl rfl rfl) (fun H14 locs14 hZ14 hS14 => ?_)
    exact b_Piece_clear_66 X hf hZ14 hS14 (lv_sub hl [] rfl)

abbrev Q_ByteRow_at (K : zK) (D : va_G) (ca : Nat → ClassId) (ad : Nat → Int → Nat → Nat) (L : List Nat) (r : Int) (F : zF) (B : zB) (A : Nat → Prop) : Array Value → State → Outcome → State → Prop := va_Qi (S := Unit) (fun p _ => p = iI r) (fun _ => zPo D ca ad lnC K.2 L F B A) A
def f_ByteRow_at_22 (K : zK) (s0 : Int) (F : zF) (B : zB) : zO := some (s0, F, B)
set_option maxHeartbeats 4000000 in
set_option maxRecDepth 100000 in
theorem b_ByteRow_at_22 {D : va_G} {ca : Nat → ClassId} {ad : Nat → Int → Nat → Nat} {L : List Nat} {aS vS : Nat → Nat} {A : Nat → Prop} {p : Program} {l : Launch} {e : Env} {s : State} {m : MethodId} {args : Array Value} {below : List Frame} {meth : Method} {c : Code} {K : zK} {r : Int} {F9 : zF} {B9 : zB} (X : zX D ca L aS vS A p s m args meth c prog_2_method_3_code 2 (Option.some Jvm.ClassFile.FieldType.int) "StaveHouse$ByteRow") {s0 : Int} {F : zF} {B : zB} {H : Heap} {locs : List Loc} {ls : Array Slot} (hf : f_ByteRow_at_22 K s0 F B = some (r, F9, B9)) (hZ : zH D ca ad lnC K.2 L F B A H) (hS : va_S A s.heap H locs) (hl : lv_has ls 2 []) : W p l e ({ frames := 0, cells := 0, slots := 0, locals := 0 } : Room) s m args below meth c H locs 0 0 (MQ below (Q_ByteRow_at K D ca ad L r F9 B9 A) args s 0 0 A) (F0 m 22 ls [.int (iI s0)]) := by
  obtain ⟨hx, hb, hr, hml, hown, hts, hlk, hK, hA, hL, hX⟩ := id X
  replace hf : (some (s0, F, B)) = some (r, F9, B9) := hf
  cases hf
  exact W.iret hx hb hr (fun t ht hW => ⟨⟨_, (), rfl, rfl, by rw [ht]; exact hZ, va_K.moved hW.alike hK⟩, hS.F ht⟩) hS.2.2 (D_172 W_prog_2_method_3_code_0 22 rfl rfl) hlk

def f_ByteRow_at_12 (K : zK)  (F : zF) (B : zB) : zO := f_ByteRow_at_22 K (-1) F B
set_option maxHeartbeats 4000000 in
set_option maxRecDepth 100000 in
theorem b_ByteRow_at_12 {D : va_G} {ca : Nat → ClassId} {ad : Nat → Int → Nat → Nat} {L : List Nat} {aS vS : Nat → Nat} {A : Nat → Prop} {p : Program} {l : Launch} {e : Env} {s : State} {m : MethodId} {args : Array Value} {below : List Frame} {meth : Method} {c : Code} {K : zK} {r : Int} {F9 : zF} {B9 : zB} (X : zX D ca L aS vS A p s m args meth c prog_2_method_3_code 2 (Option.some Jvm.ClassFile.FieldType.int) "StaveHouse$ByteRow")  {F : zF} {B : zB} {H : Heap} {locs : List Loc} {ls : Array Slot} (hf : f_ByteRow_at_12 K  F B = some (r, F9, B9)) (hZ : zH D ca ad lnC K.2 L F B A H) (hS : va_S A s.heap H locs) (hl : lv_has ls 2 []) : W p l e ({ frames := 0, cells := 0, slots := 0, locals := 0 } : Room) s m args below meth c H locs 0 0 (MQ below (Q_ByteRow_at K D ca ad L r F9 B9 A) args s 0 0 A) (F0 m 12 ls []) := by
  obtain ⟨hx, hb, hr, hml, hown, hts, hlk, hK, hA, hL, hX⟩ := id X
  replace hf : (f_ByteRow_at_22 K (-1) F B) = some (r, F9, B9) := hf
  refine lv_iconst (v := iI (-1)) hx hb (D_2 W_prog_2_method_3_code_0 12 rfl rfl) rfl ?_
  refine lv_goto (tgt := 22) hx hb (D_167 W_prog_2_method_3_code_0 13 rfl rfl rfl) (by decide) ?_
  exact b_ByteRow_at_22 X hf hZ hS (lv_sub hl [] rfl)

def f_ByteRow_at (K : zK) (l0 : Int) (l1 : Int) (F : zF) (B : zB) : zO := if r32 l1 then (if l1 < 0 then f_ByteRow_at_12 K F B else if 0 ≤ l0 ∧ l0 < K.2 0 then if r32 (F 0 l0 1) then (if l1 < (F 0 l0 1) then if 0 ≤ l1 ∧ l1 < (lnC 0 l0 0 : Int) then f_ByteRow_at_22 K (B 0 l0 0 l1) F B else none else f_ByteRow_at_12 K F B) else none else none) else none
set_option maxHeartbeats 4000000 in
set_option maxRecDepth 100000 in
theorem c_ByteRow_at {l : Launch} {D : va_G} {ca : Nat → ClassId} {ad : Nat → Int → Nat → Nat} {L : List Nat} {aS vS : Nat → Nat} {sz : Nat} {K : zK}  {l0 : Int} {l1 : Int} {F F9 : zF} {B B9 : zB} {r : Int} (hf : f_ByteRow_at K l0 l1 F B = some (r, F9, B9)) : Met l ({ cls := "StaveHouse$ByteRow", name := "at", desc := "(I)I" } : Jvm.MethodName) (Cond.code ({ cls := "StaveHouse$ByteRow", name := "at", desc := "(I)I" } : Jvm.MethodName) prog_2_method_3_code 2 (Option.some Jvm.ClassFile.FieldType.int) :: wAll) ({ frames := 0, cells := 0, slots := 0, locals := 0 } : Room) (va_Pc [.ref (ad 0 l0 0), .int (iI l1)] (zPre D ca ad lnC K.2 L aS vS F B sz)) (Q_ByteRow_at K D ca ad L r F9 B9 (zA L sz)) 0 0 (zA L sz) := by
  refine zMet (Qc := Q_ByteRow_at K D ca ad L r F9 B9) (lv := [(0, .ref (ad 0 l0 0)), (1, .int (iI l1))]) (by decide) (Nat.le_of_ble_eq_true rfl) rfl (fun A p e s m below meth c ls X hZ hS hl => ?_)
  obtain ⟨hx, hb, hr, hml, hown, hts, hlk, hK, hA, hL, hX⟩ := id X
  replace hf : (if r32 l1 then (if l1 < 0 then f_ByteRow_at_12 K F B else if 0 ≤ l0 ∧ l0 < K.2 0 then if r32 (F 0 l0 1) then (if l1 < (F 0 l0 1) then if 0 ≤ l1 ∧ l1 < (lnC 0 l0 0 : Int) then f_ByteRow_at_22 K (B 0 l0 0 l1) F B else none else f_ByteRow_at_12 K F B) else none else none) else none) = some (r, F9, B9) := hf
  refine lv_iload_n hx hb (D_27 W_prog_2_method_3_code_0 0 rfl rfl) rfl (lv_at hl 1 rfl) ?_
  obtain ⟨g1, hf⟩ := gif hf
  refine z0lt (tgt := 12) hx hb g1 (D_155 W_prog_2_method_3_code_0 1 rfl rfl rfl) (by decide) (fun h2 => ?_) (fun h2 => ?_)
  · replace hf := gpos hf h2
    exact b_ByteRow_at_12 X hf hZ hS (lv_sub hl [] rfl)
  · replace hf := gneg hf h2
    refine lv_iload_n hx hb (D_27 W_prog_2_method_3_code_0 4 rfl rfl) rfl (lv_at hl 1 rfl) ?_
    refine lv_aload_n hx hb (D_42 W_prog_2_method_3_code_0 5 rfl rfl) rfl (lv_at hl 0 rfl) ?_
    obtain ⟨g3, hf⟩ := gif hf
    refine zget (ci := 0) (C := RX0) (T := TX0) (v := .int (iI (F 0 l0 1))) (k := 1) hx hb hts inW_0 hown hK hZ g3.1 g3.2 rfl (by decide) k_1_42 rfl (D_180 W_prog_2_method_3_code_0 6 rfl rfl rfl) ?_
    obtain ⟨g4, hf⟩ := gif hf
    refine zlt (tgt := 16) hx hb g1 g4 (D_161 W_prog_2_method_3_code_0 9 rfl rfl rfl) (by decide) (fun h5 => ?_) (fun h5 => ?_)
    · replace hf := gpos hf h5
      refine lv_aload_n hx hb (D_42 W_prog_2_method_3_code_0 16 rfl rfl) rfl (lv_at hl 0 rfl) ?_
      refine zget (ci := 0) (C := RX0) (T := TX0) (v := .ref (ad 0 l0 (0 + 1))) (k := 0) hx hb hts inW_0 hown hK hZ g3.1 g3.2 rfl (by decide) k_1_41 rfl (D_180 W_prog_2_method_3_code_0 17 rfl rfl rfl) ?_
      refine lv_iload_n hx hb (D_27 W_prog_2_method_3_code_0 20 rfl rfl) rfl (lv_at hl 1 rfl) ?_
      obtain ⟨g6, hf⟩ := gif hf
      refine zald (ci := 0) (k := 0) hx hb hK rfl hZ g3.1 g3.2 rfl lnC0_le g6.1 g6.2 (D_46 W_prog_2_method_3_code_0 21 rfl rfl) ?_
      exact b_ByteRow_at_22 X hf hZ hS (lv_sub hl [] rfl)
    · replace hf := gneg hf h5
      exact b_ByteRow_at_12 X hf hZ hS (lv_sub hl [] rfl)

abbrev Q_Tokens_isBlank (K : zK) (D : va_G) (ca : Nat → ClassId) (ad : Nat → Int → Nat → Nat) (L : List Nat) (r : Int) (F : zF) (B : zB) (A : Nat → Prop) : Array Value → State → Outcome → State → Prop := va_Qi (S := Unit) (fun p _ => p = iI r) (fun _ => zPo D ca ad lnC K.2 L F B A) A
def f_Tokens_isBlank_29 (K : zK) (s0 : Int) (F : zF) (B : zB) : zO := if (s0 = 0 ∨ s0 = 1) then some (s0, F, B) else none
set_option maxHeartbeats 4000000 in
set_option maxRecDepth 100000 in
theorem b_Tokens_isBlank_29 {D : va_G} {ca : Nat → ClassId} {ad : Nat → Int → Nat → Nat} {L : List Nat} {aS vS : Nat → Nat} {A : Nat → Prop} {p : Program} {l : Launch} {e : Env} {s : State} {m : MethodId} {args : Array Value} {below : List Frame} {meth : Method} {c : Code} {K : zK} {r : Int} {F9 : zF} {B9 : zB} (X : zX D ca L aS vS A p s m args meth c prog_12_method_11_code 1 (Option.some Jvm.ClassFile.FieldType.boolean) "StaveHouse$Tokens") {s0 : Int} {F : zF} {B : zB} {H : Heap} {locs : List Loc} {ls : Array Slot} (hf : f_Tokens_isBlank_29 K s0 F B = some (r, F9, B9)) (hZ : zH D ca ad lnC K.2 L F B A H) (hS : va_S A s.heap H locs) (hl : lv_has ls 1 []) : W p l e ({ frames := 0, cells := 0, slots := 0, locals := 0 } : Room) s m args below meth c H locs 0 0 (MQ below (Q_Tokens_isBlank K D ca ad L r F9 B9 A) args s 0 0 A) (F0 m 29 ls [.int (iI s0)]) := by
  obtain ⟨hx, hb, hr, hml, hown, hts, hlk, hK, hA, hL, hX⟩ := id X
  replace hf : (if (s0 = 0 ∨ s0 = 1) then some (s0, F, B) else none) = some (r, F9, B9) := hf
  obtain ⟨g6, hf⟩ := gif hf
  cases hf
  exact W.zret hx hb hr (zbool g6) (fun t ht hW => ⟨⟨_, (), rfl, rfl, by rw [ht]; exact hZ, va_K.moved hW.alike hK⟩, hS.F ht⟩) hS.2.2 (D_172 W_prog_12_method_11_code_0 29 rfl rfl) hlk

def f_Tokens_isBlank_24 (K : zK)  (F : zF) (B : zB) : zO := f_Tokens_isBlank_29 K 1 F B
set_option maxHeartbeats 4000000 in
set_option maxRecDepth 100000 in
theorem b_Tokens_isBlank_24 {D : va_G} {ca : Nat → ClassId} {ad : Nat → Int → Nat → Nat} {L : List Nat} {aS vS : Nat → Nat} {A : Nat → Prop} {p : Program} {l : Launch} {e : Env} {s : State} {m : MethodId} {args : Array Value} {below : List Frame} {meth : Method} {c : Code} {K : zK} {r : Int} {F9 : zF} {B9 : zB} (X : zX D ca L aS vS A p s m args meth c prog_12_method_11_code 1 (Option.some Jvm.ClassFile.FieldType.boolean) "StaveHouse$Tokens")  {F : zF} {B : zB} {H : Heap} {locs : List Loc} {ls : Array Slot} (hf : f_Tokens_isBlank_24 K  F B = some (r, F9, B9)) (hZ : zH D ca ad lnC K.2 L F B A H) (hS : va_S A s.heap H locs) (hl : lv_has ls 1 []) : W p l e ({ frames := 0, cells := 0, slots := 0, locals := 0 } : Room) s m args below meth c H locs 0 0 (MQ below (Q_Tokens_isBlank K D ca ad L r F9 B9 A) args s 0 0 A) (F0 m 24 ls []) := by
  obtain ⟨hx, hb, hr, hml, hown, hts, hlk, hK, hA, hL, hX⟩ := id X
  replace hf : (f_Tokens_isBlank_29 K 1 F B) = some (r, F9, B9) := hf
  refine lv_iconst (v := iI 1) hx hb (D_4 W_prog_12_method_11_code_0 24 rfl rfl) rfl ?_
  refine lv_goto (tgt := 29) hx hb (D_167 W_prog_12_method_11_code_0 25 rfl rfl rfl) (by decide) ?_
  exact b_Tokens_isBlank_29 X hf hZ hS (lv_sub hl [] rfl)

def f_Tokens_isBlank (K : zK) (l0 : Int) (F : zF) (B : zB) : zO := if r32 l0 then (if l0 = 9 then f_Tokens_isBlank_24 K F B else (if l0 = 10 then f_Tokens_isBlank_24 K F B else (if l0 = 13 then f_Tokens_isBlank_24 K F B else (if l0 = 32 then f_Tokens_isBlank_24 K F B else f_Tokens_isBlank_29 K 0 F B)))) else none
set_option maxHeartbeats 4000000 in
set_option maxRecDepth 100000 in
theorem c_Tokens_isBlank {l : Launch} {D : va_G} {ca : Nat → ClassId} {ad : Nat → Int → Nat → Nat} {L : List Nat} {aS vS : Nat → Nat} {sz : Nat} {K : zK}  {l0 : Int} {F F9 : zF} {B B9 : zB} {r : Int} (hf : f_Tokens_isBlank K l0 F B = some (r, F9, B9)) : Met l ({ cls := "StaveHouse$Tokens", name := "isBlank", desc := "(I)Z" } : Jvm.MethodName) (Cond.code ({ cls := "StaveHouse$Tokens", name := "isBlank", desc := "(I)Z" } : Jvm.MethodName) prog_12_method_11_code 1 (Option.some Jvm.ClassFile.FieldType.boolean) :: wAll) ({ frames := 0, cells := 0, slots := 0, locals := 0 } : Room) (va_Pc [.int (iI l0)] (zPre D ca ad lnC K.2 L aS vS F B sz)) (Q_Tokens_isBlank K D ca ad L r F9 B9 (zA L sz)) 0 0 (zA L sz) := by
  refine zMet (Qc := Q_Tokens_isBlank K D ca ad L r F9 B9) (lv := [(0, .int (iI l0))]) (by decide) (Nat.le_of_ble_eq_true rfl) rfl (fun A p e s m below meth c ls X hZ hS hl => ?_)
  obtain ⟨hx, hb, hr, hml, hown, hts, hlk, hK, hA, hL, hX⟩ := id X
  replace hf : (if r32 l0 then (if l0 = 9 then f_Tokens_isBlank_24 K F B else (if l0 = 10 then f_Tokens_isBlank_24 K F B else (if l0 = 13 then f_Tokens_isBlank_24 K F B else (if l0 = 32 then f_Tokens_isBlank_24 K F B else f_Tokens_isBlank_29 K 0 F B)))) else none) = some (r, F9, B9) := hf
  refine lv_iload_n hx hb (D_26 W_prog_12_method_11_code_0 0 rfl rfl) rfl (lv_at hl 0 rfl) ?_
  refine lv_bipush (v := iI 9) hx hb (D_16 W_prog_12_method_11_code_0 1 rfl rfl rfl) (by decide) ?_
  obtain ⟨g1, hf⟩ := gif hf
  refine zeq (tgt := 24) hx hb g1 (by decide) (D_159 W_prog_12_method_11_code_0 3 rfl rfl rfl) (by decide) (fun h2 => ?_) (fun h2 => ?_)
  · replace hf := gpos hf h2
    exact b_Tokens_isBlank_24 X hf hZ hS (lv_sub hl [] rfl)
  · replace hf := gneg hf h2
    refine lv_iload_n hx hb (D_26 W_prog_12_method_11_code_0 6 rfl rfl) rfl (lv_at hl 0 rfl) ?_
    refine lv_bipush (v := iI 10) hx hb (D_16 W_prog_12_method_11_code_0 7 rfl rfl rfl) (by decide) ?_
    refine zeq (tgt := 24) hx hb g1 (by decide) (D_159 W_prog_12_method_11_code_0 9 rfl rfl rfl) (by decide) (fun h3 => ?_) (fun h3 => ?_)
    · replace hf := gpos hf h3
      exact b_Tokens_isBlank_24 X hf hZ hS (lv_sub hl [] rfl)
    · replace hf := gneg hf h3
      refine lv_iload_n hx hb (D_26 W_prog_12_method_11_code_0 12 rfl rfl) rfl (lv_at hl 0 rfl) ?_
      refine lv_bipush (v := iI 13) hx hb (D_16 W_prog_12_method_11_code_0 13 rfl rfl rfl) (by decide) ?_
      refine zeq (tgt := 24) hx hb g1 (by decide) (D_159 W_prog_12_method_11_code_0 15 rfl rfl rfl) (by decide) (fun h4 => ?_) (fun h4 => ?_)
      · replace hf := gpos hf h4
        exact b_Tokens_isBlank_24 X hf hZ hS (lv_sub hl [] rfl)
      · replace hf := gneg hf h4
        refine lv_iload_n hx hb (D_26 W_prog_12_method_11_code_0 18 rfl rfl) rfl (lv_at hl 0 rfl) ?_
        refine lv_bipush (v := iI 32) hx hb (D_16 W_prog_12_method_11_code_0 19 rfl rfl rfl) (by decide) ?_
        refine zne (tgt := 28) hx hb g1 (by decide) (D_160 W_prog_12_method_11_code_0 21 rfl rfl rfl) (by decide) (fun h5 => ?_) (fun h5 => ?_)
        · replace hf := gneg hf h5
          refine lv_iconst (v := iI 0) hx hb (D_3 W_prog_12_method_11_code_0 28 rfl rfl) rfl ?_
          exact b_Tokens_isBlank_29 X hf hZ hS (lv_sub hl [] rfl)
        · replace hf := gpos hf h5
          exact b_Tokens_isBlank_24 X hf hZ hS (lv_sub hl [] rfl)

abbrev Q_Tokens_isLetter (K : zK) (D : va_G) (ca : Nat → ClassId) (ad : Nat → Int → Nat → Nat) (L : List Nat) (r : Int) (F : zF) (B : zB) (A : Nat → Prop) : Array Value → State → Outcome → State → Prop := va_Qi (S := Unit) (fun p _ => p = iI r) (fun _ => zPo D ca ad lnC K.2 L F B A) A
def f_Tokens_isLetter_17 (K : zK) (s0 : Int) (F : zF) (B : zB) : zO := if (s0 = 0 ∨ s0 = 1) then some (s0, F, B) else none
set_option maxHeartbeats 4000000 in
set_option maxRecDepth 100000 in
theorem b_Tokens_isLetter_17 {D : va_G} {ca : Nat → ClassId} {ad : Nat → Int → Nat → Nat} {L : List Nat} {aS vS : Nat → Nat} {A : Nat → Prop} {p : Program} {l : Launch} {e : Env} {s : State} {m : MethodId} {args : Array Value} {below : List Frame} {meth : Method} {c : Code} {K : zK} {r : Int} {F9 : zF} {B9 : zB} (X : zX D ca L aS vS A p s m args meth c prog_12_method_12_code 1 (Option.some Jvm.ClassFile.FieldType.boolean) "StaveHouse$Tokens") {s0 : Int} {F : zF} {B : zB} {H : Heap} {locs : List Loc} {ls : Array Slot} (hf : f_Tokens_isLetter_17 K s0 F B = some (r, F9, B9)) (hZ : zH D ca ad lnC K.2 L F B A H) (hS : va_S A s.heap H locs) (hl : lv_has ls 1 []) : W p l e ({ frames := 0, cells := 0, slots := 0, locals := 0 } : Room) s m args below meth c H locs 0 0 (MQ below (Q_Tokens_isLetter K D ca ad L r F9 B9 A) args s 0 0 A) (F0 m 17 ls [.int (iI s0)]) := by
  obtain ⟨hx, hb, hr, hml, hown, hts, hlk, hK, hA, hL, hX⟩ := id X
  replace hf : (if (s0 = 0 ∨ s0 = 1) then some (s0, F, B) else none) = some (r, F9, B9) := hf
  obtain ⟨g4, hf⟩ := gif hf
  cases hf
  exact W.zret hx hb hr (zbool g4) (fun t ht hW => ⟨⟨_, (), rfl, rfl, by rw [ht]; exact hZ, va_K.moved hW.alike hK⟩, hS.F ht⟩) hS.2.2 (D_172 W_prog_12_method_12_code_0 17 rfl rfl) hlk

def f_Tokens_isLetter_16 (K : zK)  (F : zF) (B : zB) : zO := f_Tokens_isLetter_17 K 0 F B
set_option maxHeartbeats 4000000 in
set_option maxRecDepth 100000 in
theorem b_Tokens_isLetter_16 {D : va_G} {ca : Nat → ClassId} {ad : Nat → Int → Nat → Nat} {L : List Nat} {aS vS : Nat → Nat} {A : Nat → Prop} {p : Program} {l : Launch} {e : Env} {s : State} {m : MethodId} {args : Array Value} {below : List Frame} {meth : Method} {c : Code} {K : zK} {r : Int} {F9 : zF} {B9 : zB} (X : zX D ca L aS vS A p s m args meth c prog_12_method_12_code 1 (Option.some Jvm.ClassFile.FieldType.boolean) "StaveHouse$Tokens")  {F : zF} {B : zB} {H : Heap} {locs : List Loc} {ls : Array Slot} (hf : f_Tokens_isLetter_16 K  F B = some (r, F9, B9)) (hZ : zH D ca ad lnC K.2 L F B A H) (hS : va_S A s.heap H locs) (hl : lv_has ls 1 []) : W p l e ({ frames := 0, cells := 0, slots := 0, locals := 0 } : Room) s m args below meth c H locs 0 0 (MQ below (Q_Tokens_isLetter K D ca ad L r F9 B9 A) args s 0 0 A) (F0 m 16 ls []) := by
  obtain ⟨hx, hb, hr, hml, hown, hts, hlk, hK, hA, hL, hX⟩ := id X
  replace hf : (f_Tokens_isLetter_17 K 0 F B) = some (r, F9, B9) := hf
  refine lv_iconst (v := iI 0) hx hb (D_3 W_prog_12_method_12_code_0 16 rfl rfl) rfl ?_
  exact b_Tokens_isLetter_17 X hf hZ hS (lv_sub hl [] rfl)

def f_Tokens_isLetter (K : zK) (l0 : Int) (F : zF) (B : zB) : zO := if r32 l0 then (if l0 < 97 then f_Tokens_isLetter_16 K F B else (if 122 < l0 then f_Tokens_isLetter_16 K F B else f_Tokens_isLetter_17 K 1 F B)) else none
set_option maxHeartbeats 4000000 in
set_option maxRecDepth 100000 in
theorem c_Tokens_isLetter {l : Launch} {D : va_G} {ca : Nat → ClassId} {ad : Nat → Int → Nat → Nat} {L : List Nat} {aS vS : Nat → Nat} {sz : Nat} {K : zK}  {l0 : Int} {F F9 : zF} {B B9 : zB} {r : Int} (hf : f_Tokens_isLetter K l0 F B = some (r, F9, B9)) : Met l ({ cls := "StaveHouse$Tokens", name := "isLetter", desc := "(I)Z" } : Jvm.MethodName) (Cond.code ({ cls := "StaveHouse$Tokens", name := "isLetter", desc := "(I)Z" } : Jvm.MethodName) prog_12_method_12_code 1 (Option.some Jvm.ClassFile.FieldType.boolean) :: wAll) ({ frames := 0, cells := 0, slots := 0, locals := 0 } : Room) (va_Pc [.int (iI l0)] (zPre D ca ad lnC K.2 L aS vS F B sz)) (Q_Tokens_isLetter K D ca ad L r F9 B9 (zA L sz)) 0 0 (zA L sz) := by
  refine zMet (Qc := Q_Tokens_isLetter K D ca ad L r F9 B9) (lv := [(0, .int (iI l0))]) (by decide) (Nat.le_of_ble_eq_true rfl) rfl (fun A p e s m below meth c ls X hZ hS hl => ?_)
  obtain ⟨hx, hb, hr, hml, hown, hts, hlk, hK, hA, hL, hX⟩ := id X
  replace hf : (if r32 l0 then (if l0 < 97 then f_Tokens_isLetter_16 K F B else (if 122 < l0 then f_Tokens_isLetter_16 K F B else f_Tokens_isLetter_17 K 1 F B)) else none) = some (r, F9, B9) := hf
  refine lv_iload_n hx hb (D_26 W_prog_12_method_12_code_0 0 rfl rfl) rfl (lv_at hl 0 rfl) ?_
  refine lv_bipush (v := iI 97) hx hb (D_16 W_prog_12_method_12_code_0 1 rfl rfl rfl) (by decide) ?_
  obtain ⟨g1, hf⟩ := gif hf
  refine zlt (tgt := 16) hx hb g1 (by decide) (D_161 W_prog_12_method_12_code_0 3 rfl rfl rfl) (by decide) (fun h2 => ?_) (fun h2 => ?_)
  · replace hf := gpos hf h2
    exact b_Tokens_isLetter_16 X hf hZ hS (lv_sub hl [] rfl)
  · replace hf := gneg hf h2
    refine lv_iload_n hx hb (D_26 W_prog_12_method_12_code_0 6 rfl rfl) rfl (lv_at hl 0 rfl) ?_
    refine lv_bipush (v := iI 122) hx hb (D_16 W_prog_12_method_12_code_0 7 rfl rfl rfl) (by decide) ?_
    refine zgt (tgt := 16) hx hb g1 (by decide) (D_163 W_prog_12_method_12_code_0 9 rfl rfl rfl) (by decide) (fun h3 => ?_) (fun h3 => ?_)
    · replace hf := gpos hf h3
      exact b_Tokens_isLetter_16 X hf hZ hS (lv_sub hl [] rfl)
    · replace hf := gneg hf h3
      refine lv_iconst (v := iI 1) hx hb (D_4 W_prog_12_method_12_code_0 12 rfl rfl) rfl ?_
      refine lv_goto (tgt := 17) hx hb (D_167 W_prog_12_method_12_code_0 13 rfl rfl rfl) (by decide) ?_
      exact b_Tokens_isLetter_17 X hf hZ hS (lv_sub hl [] rfl)

abbrev Q_Tokens_isDigit (K : zK) (D : va_G) (ca : Nat → ClassId) (ad : Nat → Int → Nat → Nat) (L : List Nat) (r : Int) (F : zF) (B : zB) (A : Nat → Prop) : Array Value → State → Outcome → State → Prop := va_Qi (S := Unit) (fun p _ => p = iI r) (fun _ => zPo D ca ad lnC K.2 L F B A) A
def f_Tokens_isDigit_17 (K : zK) (s0 : Int) (F : zF) (B : zB) : zO := if (s0 = 0 ∨ s0 = 1) then some (s0, F, B) else none
set_option maxHeartbeats 4000000 in
set_option maxRecDepth 100000 in
theorem b_Tokens_isDigit_17 {D : va_G} {ca : Nat → ClassId} {ad : Nat → Int → Nat → Nat} {L : List Nat} {aS vS : Nat → Nat} {A : Nat → Prop} {p : Program} {l : Launch} {e : Env} {s : State} {m : MethodId} {args : Array Value} {below : List Frame} {meth : Method} {c : Code} {K : zK} {r : Int} {F9 : zF} {B9 : zB} (X : zX D ca L aS vS A p s m args meth c prog_12_method_13_code 1 (Option.some Jvm.ClassFile.FieldType.boolean) "StaveHouse$Tokens") {s0 : Int} {F : zF} {B : zB} {H : Heap} {locs : List Loc} {ls : Array Slot} (hf : f_Tokens_isDigit_17 K s0 F B = some (r, F9, B9)) (hZ : zH D ca ad lnC K.2 L F B A H) (hS : va_S A s.heap H locs) (hl : lv_has ls 1 []) : W p l e ({ frames := 0, cells := 0, slots := 0, locals := 0 } : Room) s m args below meth c H locs 0 0 (MQ below (Q_Tokens_isDigit K D ca ad L r F9 B9 A) args s 0 0 A) (F0 m 17 ls [.int (iI s0)]) := by
  obtain ⟨hx, hb, hr, hml, hown, hts, hlk, hK, hA, hL, hX⟩ := id X
  replace hf : (if (s0 = 0 ∨ s0 = 1) then some (s0, F, B) else none) = some (r, F9, B9) := hf
  obtain ⟨g4, hf⟩ := gif hf
  cases hf
  exact W.zret hx hb hr (zbool g4) (fun t ht hW => ⟨⟨_, (), rfl, rfl, by rw [ht]; exact hZ, va_K.moved hW.alike hK⟩, hS.F ht⟩) hS.2.2 (D_172 W_prog_12_method_13_code_0 17 rfl rfl) hlk

def f_Tokens_isDigit_16 (K : zK)  (F : zF) (B : zB) : zO := f_Tokens_isDigit_17 K 0 F B
set_option maxHeartbeats 4000000 in
set_option maxRecDepth 100000 in
theorem b_Tokens_isDigit_16 {D : va_G} {ca : Nat → ClassId} {ad : Nat → Int → Nat → Nat} {L : List Nat} {aS vS : Nat → Nat} {A : Nat → Prop} {p : Program} {l : Launch} {e : Env} {s : State} {m : MethodId} {args : Array Value} {below : List Frame} {meth : Method} {c : Code} {K : zK} {r : Int} {F9 : zF} {B9 : zB} (X : zX D ca L aS vS A p s m args meth c prog_12_method_13_code 1 (Option.some Jvm.ClassFile.FieldType.boolean) "StaveHouse$Tokens")  {F : zF} {B : zB} {H : Heap} {locs : List Loc} {ls : Array Slot} (hf : f_Tokens_isDigit_16 K  F B = some (r, F9, B9)) (hZ : zH D ca ad lnC K.2 L F B A H) (hS : va_S A s.heap H locs) (hl : lv_has ls 1 []) : W p l e ({ frames := 0, cells := 0, slots := 0, locals := 0 } : Room) s m args below meth c H locs 0 0 (MQ below (Q_Tokens_isDigit K D ca ad L r F9 B9 A) args s 0 0 A) (F0 m 16 ls []) := by
  obtain ⟨hx, hb, hr, hml, hown, hts, hlk, hK, hA, hL, hX⟩ := id X
  replace hf : (f_Tokens_isDigit_17 K 0 F B) = some (r, F9, B9) := hf
  refine lv_iconst (v := iI 0) hx hb (D_3 W_prog_12_method_13_code_0 16 rfl rfl) rfl ?_
  exact b_Tokens_isDigit_17 X hf hZ hS (lv_sub hl [] rfl)

def f_Tokens_isDigit (K : zK) (l0 : Int) (F : zF) (B : zB) : zO := if r32 l0 then (if l0 < 48 then f_Tokens_isDigit_16 K F B else (if 57 < l0 then f_Tokens_isDigit_16 K F B else f_Tokens_isDigit_17 K 1 F B)) else none
set_option maxHeartbeats 4000000 in
set_option maxRecDepth 100000 in
theorem c_Tokens_isDigit {l : Launch} {D : va_G} {ca : Nat → ClassId} {ad : Nat → Int → Nat → Nat} {L : List Nat} {aS vS : Nat → Nat} {sz : Nat} {K : zK}  {l0 : Int} {F F9 : zF} {B B9 : zB} {r : Int} (hf : f_Tokens_isDigit K l0 F B = some (r, F9, B9)) : Met l ({ cls := "StaveHouse$Tokens", name := "isDigit", desc := "(I)Z" } : Jvm.MethodName) (Cond.code ({ cls := "StaveHouse$Tokens", name := "isDigit", desc := "(I)Z" } : Jvm.MethodName) prog_12_method_13_code 1 (Option.some Jvm.ClassFile.FieldType.boolean) :: wAll) ({ frames := 0, cells := 0, slots := 0, locals := 0 } : Room) (va_Pc [.int (iI l0)] (zPre D ca ad lnC K.2 L aS vS F B sz)) (Q_Tokens_isDigit K D ca ad L r F9 B9 (zA L sz)) 0 0 (zA L sz) := by
  refine zMet (Qc := Q_Tokens_isDigit K D ca ad L r F9 B9) (lv := [(0, .int (iI l0))]) (by decide) (Nat.le_of_ble_eq_true rfl) rfl (fun A p e s m below meth c ls X hZ hS hl => ?_)
  obtain ⟨hx, hb, hr, hml, hown, hts, hlk, hK, hA, hL, hX⟩ := id X
  replace hf : (if r32 l0 then (if l0 < 48 then f_Tokens_isDigit_16 K F B else (if 57 < l0 then f_Tokens_isDigit_16 K F B else f_Tokens_isDigit_17 K 1 F B)) else none) = some (r, F9, B9) := hf
  refine lv_iload_n hx hb (D_26 W_prog_12_method_13_code_0 0 rfl rfl) rfl (lv_at hl 0 rfl) ?_
  refine lv_bipush (v := iI 48) hx hb (D_16 W_prog_12_method_13_code_0 1 rfl rfl rfl) (by decide) ?_
  obtain ⟨g1, hf⟩ := gif hf
  refine zlt (tgt := 16) hx hb g1 (by decide) (D_161 W_prog_12_method_13_code_0 3 rfl rfl rfl) (by decide) (fun h2 => ?_) (fun h2 => ?_)
  · replace hf := gpos hf h2
    exact b_Tokens_isDigit_16 X hf hZ hS (lv_sub hl [] rfl)
  · replace hf := gneg hf h2
    refine lv_iload_n hx hb (D_26 W_prog_12_method_13_code_0 6 rfl rfl) rfl (lv_at hl 0 rfl) ?_
    refine lv_bipush (v := iI 57) hx hb (D_16 W_prog_12_method_13_code_0 7 rfl rfl rfl) (by decide) ?_
    refine zgt (tgt := 16) hx hb g1 (by decide) (D_163 W_prog_12_method_13_code_0 9 rfl rfl rfl) (by decide) (fun h3 => ?_) (fun h3 => ?_)
    · replace hf := gpos hf h3
      exact b_Tokens_isDigit_16 X hf hZ hS (lv_sub hl [] rfl)
    · replace hf := gneg hf h3
      refine lv_iconst (v := iI 1) hx hb (D_4 W_prog_12_method_13_code_0 12 rfl rfl) rfl ?_
      refine lv_goto (tgt := 17) hx hb (D_167 W_prog_12_method_13_code_0 13 rfl rfl rfl) (by decide) ?_
      exact b_Tokens_isDigit_17 X hf hZ hS (lv_sub hl [] rfl)

abbrev Q_Tokens_isPitch (K : zK) (D : va_G) (ca : Nat → ClassId) (ad : Nat → Int → Nat → Nat) (L : List Nat) (r : Int) (F : zF) (B : zB) (A : Nat → Prop) : Array Value → State → Outcome → State → Prop := va_Qi (S := Unit) (fun p _ => p = iI r) (fun _ => zPo D ca ad lnC K.2 L F B A) A
def f_Tokens_isPitch_108 (rec67 : Int → Int → Int → Int → Int → zF → zB → zO) (K : zK) (l6 : Int) (l5 : Int) (l0 : Int) (l1 : Int) (l2 : Int) (F : zF) (B : zB) : zO := rec67 (l6 + 1) l5 l0 l1 l2 F B
set_option maxHeartbeats 4000000 in
set_option maxRecDepth 100000 in
theorem b_Tokens_isPitch_108 {D : va_G} {ca : Nat → ClassId} {ad : Nat → Int → Nat → Nat} {L : List Nat} {aS vS : Nat → Nat} {A : Nat → Prop} {p : Program} {l : Launch} {e : Env} {s : State} {m : MethodId} {args : Array Value} {below : List Frame} {meth : Method} {c : Code} {K : zK} {r : Int} {F9 : zF} {B9 : zB} (X : zX D ca L aS vS A p s m args meth c prog_12_method_9_code 8 (Option.some Jvm.ClassFile.FieldType.boolean) "StaveHouse$Tokens") {rec67 : Int → Int → Int → Int → Int → zF → zB → zO} (hrec67 : ∀ {l6 : Int} {l5 : Int} {l0 : Int} {l1 : Int} {l2 : Int} {F : zF} {B : zB} {H : Heap} {locs : List Loc} {ls : Array Slot}, rec67 l6 l5 l0 l1 l2 F B = some (r, F9, B9) → zH D ca ad lnC K.2 L F B A H → va_S A s.heap H locs → lv_has ls 8 [(6, .int (iI l6)), (5, .int (iI l5)), (0, .ref (ad 0 l0 0)), (1, .int (iI l1)), (2, .int (iI l2))] → W p l e ({ frames := 1, cells := 0, slots := 0, locals := 21 } : Room) s m args below meth c H locs 0 0 (MQ below (Q_Tokens_isPitch K D ca ad L r F9 B9 A) args s 0 0 A) (F0 m 67 ls [])) {l6 : Int} {l5 : Int} {l0 : Int} {l1 : Int} {l2 : Int} {F : zF} {B : zB} {H : Heap} {locs : List Loc} {ls : Array Slot} (hf : f_Tokens_isPitch_108 rec67 K l6 l5 l0 l1 l2 F B = some (r, F9, B9)) (hZ : zH D ca ad lnC K.2 L F B A H) (hS : va_S A s.heap H locs) (hl : lv_has ls 8 [(6, .int (iI l6)), (5, .int (iI l5)), (0, .ref (ad 0 l0 0)), (1, .int (iI l1)), (2, .int (iI l2))]) : W p l e ({ frames := 1, cells := 0, slots := 0, locals := 21 } : Room) s m args below meth c H locs 0 0 (MQ below (Q_Tokens_isPitch K D ca ad L r F9 B9 A) args s 0 0 A) (F0 m 108 ls []) := by
  obtain ⟨hx, hb, hr, hml, hown, hts, hlk, hK, hA, hL, hX⟩ := id X
  replace hf : (rec67 (l6 + 1) l5 l0 l1 l2 F B) = some (r, F9, B9) := hf
  refine lv_iinc (v := iI (l6 + 1)) (lv' := [(6, .int (iI (l6 + 1))), (5, .int (iI l5)), (0, .ref (ad 0 l0 0)), (1, .int (iI l1)), (2, .int (iI l2))]) hx hb d_12_9_108 hl (k := 0) rfl (iI_add _ 1) (by decide) rfl (fun ls hl => ?_)
  refine lv_goto (tgt := 67) hx hb (D_167 W_prog_12_method_9_code_96 15 rfl rfl rfl) (by decide) ?_
  exact hrec67 hf hZ hS (lv_sub hl [0, 1, 2, 3, 4] rfl)

def f_Tokens_isPitch_106 (K : zK)  (F : zF) (B : zB) : zO := some (0, F, B)
set_option maxHeartbeats 4000000 in
set_option maxRecDepth 100000 in
theorem b_Tokens_isPitch_106 {D : va_G} {ca : Nat → ClassId} {ad : Nat → Int → Nat → Nat} {L : List Nat} {aS vS : Nat → Nat} {A : Nat → Prop} {p : Program} {l : Launch} {e : Env} {s : State} {m : MethodId} {args : Array Value} {below : List Frame} {meth : Method} {c : Code} {K : zK} {r : Int} {F9 : zF} {B9 : zB} (X : zX D ca L aS vS A p s m args meth c prog_12_method_9_code 8 (Option.some Jvm.ClassFile.FieldType.boolean) "StaveHouse$Tokens")  {F : zF} {B : zB} {H : Heap} {locs : List Loc} {ls : Array Slot} (hf : f_Tokens_isPitch_106 K  F B = some (r, F9, B9)) (hZ : zH D ca ad lnC K.2 L F B A H) (hS : va_S A s.heap H locs) (hl : lv_has ls 8 []) : W p l e ({ frames := 1, cells := 0, slots := 0, locals := 21 } : Room) s m args below meth c H locs 0 0 (MQ below (Q_Tokens_isPitch K D ca ad L r F9 B9 A) args s 0 0 A) (F0 m 106 ls []) := by
  obtain ⟨hx, hb, hr, hml, hown, hts, hlk, hK, hA, hL, hX⟩ := id X
  replace hf : (some (0, F, B)) = some (r, F9, B9) := hf
  refine lv_iconst (v := iI 0) hx hb (D_3 W_prog_12_method_9_code_96 10 rfl rfl) rfl ?_
  cases hf
  exact W.zret hx hb hr rfl (fun t ht hW => ⟨⟨_, (), rfl, rfl, by rw [ht]; exact hZ, va_K.moved hW.alike hK⟩, hS.F ht⟩) hS.2.2 (D_172 W_prog_12_method_9_code_96 11 rfl rfl) hlk

def f_Tokens_isPitch_67 (K : zK) : Nat → Int → Int → Int → Int → Int → zF → zB → zO
  | 0, _, _, _, _, _, _, _ => none
  | n + 1, l6, l5, l0, l1, l2, F, B => if r32 l6 then if r32 (l2 - 1) then (if (l2 - 1) ≤ l6 then some (1, F, B) else if 0 ≤ l0 ∧ l0 < K.2 0 then zbind (f_ByteRow_at K l0 (l1 + l6) F B) (fun r18 F18 B18 => if r32 r18 then if r32 l5 then (if r18 = l5 then (if r18 = 35 then f_Tokens_isPitch_108 (f_Tokens_isPitch_67 K n) K l6 l5 l0 l1 l2 F18 B18 else (if r18 = 98 then f_Tokens_isPitch_108 (f_Tokens_isPitch_67 K n) K l6 l5 l0 l1 l2 F18 B18 else f_Tokens_isPitch_106 K F18 B18)) else f_Tokens_isPitch_106 K F18 B18) else none else none) else none) else none else none
set_option maxHeartbeats 4000000 in
set_option maxRecDepth 100000 in
theorem b_Tokens_isPitch_67 {D : va_G} {ca : Nat → ClassId} {ad : Nat → Int → Nat → Nat} {L : List Nat} {aS vS : Nat → Nat} {A : Nat → Prop} {p : Program} {l : Launch} {e : Env} {s : State} {m : MethodId} {args : Array Value} {below : List Frame} {meth : Method} {c : Code} {K : zK} {r : Int} {F9 : zF} {B9 : zB} (X : zX D ca L aS vS A p s m args meth c prog_12_method_9_code 8 (Option.some Jvm.ClassFile.FieldType.boolean) "StaveHouse$Tokens") : ∀ {n : Nat} {l6 : Int} {l5 : Int} {l0 : Int} {l1 : Int} {l2 : Int} {F : zF} {B : zB} {H : Heap} {locs : List Loc} {ls : Array Slot}, f_Tokens_isPitch_67 K n l6 l5 l0 l1 l2 F B = some (r, F9, B9) → zH D ca ad lnC K.2 L F B A H → va_S A s.heap H locs → lv_has ls 8 [(6, .int (iI l6)), (5, .int (iI l5)), (0, .ref (ad 0 l0 0)), (1, .int (iI l1)), (2, .int (iI l2))] → W p l e ({ frames := 1, cells := 0, slots := 0, locals := 21 } : Room) s m args below meth c H locs 0 0 (MQ below (Q_Tokens_isPitch K D ca ad L r F9 B9 A) args s 0 0 A) (F0 m 67 ls []) := by
  obtain ⟨hx, hb, hr, hml, hown, hts, hlk, hK, hA, hL, hX⟩ := id X
  intro n
  induction n with
  | zero =>
    intros
    rename_i hf _ _ _
    cases hf
  | succ n ih =>
    intro l6 l5 l0 l1 l2 F B H locs ls hf hZ hS hl
    replace hf : (if r32 l6 then if r32 (l2 - 1) then (if (l2 - 1) ≤ l6 then some (1, F, B) else if 0 ≤ l0 ∧ l0 < K.2 0 then zbind (f_ByteRow_at K l0 (l1 + l6) F B) (fun r18 F18 B18 => if r32 r18 then if r32 l5 then (if r18 = l5 then (if r18 = 35 then f_Tokens_isPitch_108 (f_Tokens_isPitch_67 K n) K l6 l5 l0 l1 l2 F18 B18 else (if r18 = 98 then f_Tokens_isPitch_108 (f_Tokens_isPitch_67 K n) K l6 l5 l0 l1 l2 F18 B18 else f_Tokens_isPitch_106 K F18 B18)) else f_Tokens_isPitch_106 K F18 B18) else none else none) else none) else none else none) = some (r, F9, B9) := hf
    refine lv_iload hx hb (D_21 W_prog_12_method_9_code_64 3 rfl rfl) (lv_at hl 0 rfl) ?_
    refine lv_iload_n hx hb (D_28 W_prog_12_method_9_code_64 5 rfl rfl) rfl (lv_at hl 4 rfl) ?_
    refine lv_iconst (v := iI 1) hx hb (D_4 W_prog_12_method_9_code_64 6 rfl rfl) rfl ?_
    refine zsub hx hb (D_100 W_prog_12_method_9_code_64 7 rfl rfl) ?_
    obtain ⟨g14, hf⟩ := gif hf
    obtain ⟨g15, hf⟩ := gif hf
    refine zge (tgt := 114) hx hb g14 g15 (D_162 W_prog_12_method_9_code_64 8 rfl rfl rfl) (by decide) (fun h16 => ?_) (fun h16 => ?_)
    · replace hf := gpos hf h16
      refine lv_iconst (v := iI 1) hx hb (D_4 W_prog_12_method_9_code_96 18 rfl rfl) rfl ?_
      cases hf
      exact W.zret hx hb hr rfl (fun t ht hW => ⟨⟨_, (), rfl, rfl, by rw [ht]; exact hZ, va_K.moved hW.alike hK⟩, hS.F ht⟩) hS.2.2 (D_172 W_prog_12_method_9_code_96 19 rfl rfl) hlk
    · replace hf := gneg hf h16
      refine lv_aload_n hx hb (D_42 W_prog_12_method_9_code_64 11 rfl rfl) rfl (lv_at hl 2 rfl) ?_
      refine lv_iload_n hx hb (D_27 W_prog_12_method_9_code_64 12 rfl rfl) rfl (lv_at hl 3 rfl) ?_
      refine lv_iload hx hb (D_21 W_prog_12_method_9_code_64 13 rfl rfl) (lv_at hl 0 rfl) ?_
      refine zadd hx hb (D_96 W_prog_12_method_9_code_64 15 rfl rfl) ?_
      obtain ⟨g17, hf⟩ := gif hf
      obtain ⟨r18, F18, B18, hc18, hf⟩ := gbind hf
      refine va_calli (va_runV (As := [.int (iI (l1 + l6))]) (rest := []) ⟨hx, hb, hml, hown, hts⟩ (c_ByteRow_at (l := l) hc18) (cwV 1 hts (gdV k_3_34 k_3_35 k_3_36 k_1_2 k_3_37) rfl rfl rfl (by decide +kernel) ⟨Nat.le_of_ble_eq_true rfl, Nat.le_of_ble_eq_true rfl⟩) (zPV X hZ hS (ci := 0) g17.1 g17.2 (r := (RX0, TX0, 3)) rfl [.int (iI (l1 + l6))]) rfl rfl hl.1 rfl (lv_room (Nat.le_of_ble_eq_true rfl)) (D_182 W_prog_12_method_9_code_64 16 rfl rfl rfl) ⟨Nat.le_of_ble_eq_true rfl, Nat.le_of_ble_eq_true rfl⟩) hS (fun q _ h => zAin X hS q h) (zAin X hS) (fun p18 u18 t18 H18 locs18 ht18 hv18 hw18 hB18 hz18 hk18 hS18 => ?_)
      have hZ18 := zBack X ht18 hB18
      subst hw18
      refine lv_istore (lv' := [(7, .int (iI r18)), (6, .int (iI l6)), (5, .int (iI l5)), (0, .ref (ad 0 l0 0)), (1, .int (iI l1)), (2, .int (iI l2))]) hx hb (D_54 W_prog_12_method_9_code_64 19 rfl rfl) hl (by decide) rfl (fun ls hl => ?_)
      refine lv_iload hx hb (D_21 W_prog_12_method_9_code_64 21 rfl rfl) (lv_at hl 0 rfl) ?_
      refine lv_iload hx hb (D_21 W_prog_12_method_9_code_64 23 rfl rfl) (lv_at hl 2 rfl) ?_
      obtain ⟨g19, hf⟩ := gif hf
      obtain ⟨g20, hf⟩ := gif hf
      refine zne (tgt := 106) hx hb g19 g20 (D_160 W_prog_12_method_9_code_64 25 rfl rfl rfl) (by decide) (fun h21 => ?_) (fun h21 => ?_)
      · replace hf := gneg hf h21
        exact b_Tokens_isPitch_106 X hf hZ18 hS18 (lv_sub hl [] rfl)
      · replace hf := gpos hf h21
        refine lv_iload hx hb (D_21 W_prog_12_method_9_code_64 28 rfl rfl) (lv_at hl 0 rfl) ?_
        refine lv_bipush (v := iI 35) hx hb (D_16 W_prog_12_method_9_code_64 30 rfl rfl rfl) (by decide) ?_
        refine zeq (tgt := 108) hx hb g19 (by decide) (D_159 W_prog_12_method_9_code_96 0 rfl rfl rfl) (by decide) (fun h22 => ?_) (fun h22 => ?_)
        · replace hf := gpos hf h22
          exact b_Tokens_isPitch_108 X ih hf hZ18 hS18 (lv_sub hl [1, 2, 3, 4, 5] rfl)
        · replace hf := gneg hf h22
          refine lv_iload hx hb (D_21 W_prog_12_method_9_code_96 3 rfl rfl) (lv_at hl 0 rfl) ?_
          refine lv_bipush (v := iI 98) hx hb (D_16 W_prog_12_method_9_code_96 5 rfl rfl rfl) (by decide) ?_
          refine zeq (tgt := 108) hx hb g19 (by decide) (D_159 W_prog_12_method_9_code_96 7 rfl rfl rfl) (by decide) (fun h23 => ?_) (fun h23 => ?_)
          · replace hf := gpos hf h23
            exact b_Tokens_isPitch_108 X ih hf hZ18 hS18 (lv_sub hl [1, 2, 3, 4, 5] rfl)
          · replace hf := gneg hf h23
            exact b_Tokens_isPitch_106 X hf hZ18 hS18 (lv_sub hl [] rfl)

def f_Tokens_isPitch_53 (K : zK)  (F : zF) (B : zB) : zO := some (0, F, B)
set_option maxHeartbeats 4000000 in
set_option maxRecDepth 100000 in
theorem b_Tokens_isPitch_53 {D : va_G} {ca : Nat → ClassId} {ad : Nat → Int → Nat → Nat} {L : List Nat} {aS vS : Nat → Nat} {A : Nat → Prop} {p : Program} {l : Launch} {e : Env} {s : State} {m : MethodId} {args : Array Value} {below : List Frame} {meth : Method} {c : Code} {K : zK} {r : Int} {F9 : zF} {B9 : zB} (X : zX D ca L aS vS A p s m args meth c prog_12_method_9_code 8 (Option.some Jvm.ClassFile.FieldType.boolean) "StaveHouse$Tokens")  {F : zF} {B : zB} {H : Heap} {locs : List Loc} {ls : Array Slot} (hf : f_Tokens_isPitch_53 K  F B = some (r, F9, B9)) (hZ : zH D ca ad lnC K.2 L F B A H) (hS : va_S A s.heap H locs) (hl : lv_has ls 8 []) : W p l e ({ frames := 1, cells := 0, slots := 0, locals := 21 } : Room) s m args below meth c H locs 0 0 (MQ below (Q_Tokens_isPitch K D ca ad L r F9 B9 A) args s 0 0 A) (F0 m 53 ls []) := by
  obtain ⟨hx, hb, hr, hml, hown, hts, hlk, hK, hA, hL, hX⟩ := id X
  replace hf : (some (0, F, B)) = some (r, F9, B9) := hf
  refine lv_iconst (v := iI 0) hx hb (D_3 W_prog_12_method_9_code_32 21 rfl rfl) rfl ?_
  cases hf
  exact W.zret hx hb hr rfl (fun t ht hW => ⟨⟨_, (), rfl, rfl, by rw [ht]; exact hZ, va_K.moved hW.alike hK⟩, hS.F ht⟩) hS.2.2 (D_172 W_prog_12_method_9_code_32 22 rfl rfl) hlk

def f_Tokens_isPitch (K : zK) (l0 : Int) (l1 : Int) (l2 : Int) (F : zF) (B : zB) : zO := if 0 ≤ l0 ∧ l0 < K.2 0 then zbind (f_ByteRow_at K l0 l1 F B) (fun r2 F2 B2 => zbind (f_ByteRow_at K l0 ((l1 + l2) - 1) F2 B2) (fun r3 F3 B3 => if r32 l2 then (if l2 < 2 then f_Tokens_isPitch_53 K F3 B3 else (if 4 < l2 then f_Tokens_isPitch_53 K F3 B3 else if r32 r2 then (if r2 < 97 then f_Tokens_isPitch_53 K F3 B3 else (if 103 < r2 then f_Tokens_isPitch_53 K F3 B3 else if r32 r3 then (if r3 < 48 then f_Tokens_isPitch_53 K F3 B3 else (if r3 ≤ 56 then zbind (f_ByteRow_at K l0 (l1 + 1) F3 B3) (fun r13 F13 B13 => f_Tokens_isPitch_67 K K.1 1 r13 l0 l1 l2 F13 B13) else f_Tokens_isPitch_53 K F3 B3)) else none)) else none)) else none)) else none
set_option maxHeartbeats 4000000 in
set_option maxRecDepth 100000 in
theorem c_Tokens_isPitch {l : Launch} {D : va_G} {ca : Nat → ClassId} {ad : Nat → Int → Nat → Nat} {L : List Nat} {aS vS : Nat → Nat} {sz : Nat} {K : zK}  {l0 : Int} {l1 : Int} {l2 : Int} {F F9 : zF} {B B9 : zB} {r : Int} (hf : f_Tokens_isPitch K l0 l1 l2 F B = some (r, F9, B9)) : Met l ({ cls := "StaveHouse$Tokens", name := "isPitch", desc := "(LStaveHouse$ByteRow;II)Z" } : Jvm.MethodName) (Cond.code ({ cls := "StaveHouse$Tokens", name := "isPitch", desc := "(LStaveHouse$ByteRow;II)Z" } : Jvm.MethodName) prog_12_method_9_code 8 (Option.some Jvm.ClassFile.FieldType.boolean) :: wAll) ({ frames := 1, cells := 0, slots := 0, locals := 21 } : Room) (va_Pc [.ref (ad 0 l0 0), .int (iI l1), .int (iI l2)] (zPre D ca ad lnC K.2 L aS vS F B sz)) (Q_Tokens_isPitch K D ca ad L r F9 B9 (zA L sz)) 0 0 (zA L sz) := by
  refine zMet (Qc := Q_Tokens_isPitch K D ca ad L r F9 B9) (lv := [(0, .ref (ad 0 l0 0)), (1, .int (iI l1)), (2, .int (iI l2))]) (by decide) (Nat.le_of_ble_eq_true rfl) rfl (fun A p e s m below meth c ls X hZ hS hl => ?_)
  obtain ⟨hx, hb, hr, hml, hown, hts, hlk, hK, hA, hL, hX⟩ := id X
  replace hf : (if 0 ≤ l0 ∧ l0 < K.2 0 then zbind (f_ByteRow_at K l0 l1 F B) (fun r2 F2 B2 => zbind (f_ByteRow_at K l0 ((l1 + l2) - 1) F2 B2) (fun r3 F3 B3 => if r32 l2 then (if l2 < 2 then f_Tokens_isPitch_53 K F3 B3 else (if 4 < l2 then f_Tokens_isPitch_53 K F3 B3 else if r32 r2 then (if r2 < 97 then f_Tokens_isPitch_53 K F3 B3 else (if 103 < r2 then f_Tokens_isPitch_53 K F3 B3 else if r32 r3 then (if r3 < 48 then f_Tokens_isPitch_53 K F3 B3 else (if r3 ≤ 56 then zbind (f_ByteRow_at K l0 (l1 + 1) F3 B3) (fun r13 F13 B13 => f_Tokens_isPitch_67 K K.1 1 r13 l0 l1 l2 F13 B13) else f_Tokens_isPitch_53 K F3 B3)) else none)) else none)) else none)) else none) = some (r, F9, B9) := hf
  refine lv_aload_n hx hb (D_42 W_prog_12_method_9_code_0 0 rfl rfl) rfl (lv_at hl 0 rfl) ?_
  refine lv_iload_n hx hb (D_27 W_prog_12_method_9_code_0 1 rfl rfl) rfl (lv_at hl 1 rfl) ?_
  obtain ⟨g1, hf⟩ := gif hf
  obtain ⟨r2, F2, B2, hc2, hf⟩ := gbind hf
  refine va_calli (va_runV (As := [.int (iI l1)]) (rest := []) ⟨hx, hb, hml, hown, hts⟩ (c_ByteRow_at (l := l) hc2) (cwV 1 hts (gdV k_3_34 k_3_35 k_3_36 k_1_2 k_3_37) rfl rfl rfl (by decide +kernel) ⟨Nat.le_of_ble_eq_true rfl, Nat.le_of_ble_eq_true rfl⟩) (zPV X hZ hS (ci := 0) g1.1 g1.2 (r := (RX0, TX0, 3)) rfl [.int (iI l1)]) rfl rfl hl.1 rfl (lv_room (Nat.le_of_ble_eq_true rfl)) (D_182 W_prog_12_method_9_code_0 2 rfl rfl rfl) ⟨Nat.le_of_ble_eq_true rfl, Nat.le_of_ble_eq_true rfl⟩) hS (fun q _ h => zAin X hS q h) (zAin X hS) (fun p2 u2 t2 H2 locs2 ht2 hv2 hw2 hB2 hz2 hk2 hS2 => ?_)
  have hZ2 := zBack X ht2 hB2
  subst hw2
  refine lv_istore_n (lv' := [(3, .int (iI r2)), (0, .ref (ad 0 l0 0)), (1, .int (iI l1)), (2, .int (iI l2))]) hx hb (D_62 W_prog_12_method_9_code_0 5 rfl rfl) rfl hl (by decide) rfl (fun ls hl => ?_)
  refine lv_aload_n hx hb (D_42 W_prog_12_method_9_code_0 6 rfl rfl) rfl (lv_at hl 1 rfl) ?_
  refine lv_iload_n hx hb (D_27 W_prog_12_method_9_code_0 7 rfl rfl) rfl (lv_at hl 2 rfl) ?_
  refine lv_iload_n hx hb (D_28 W_prog_12_method_9_code_0 8 rfl rfl) rfl (lv_at hl 3 rfl) ?_
  refine zadd hx hb (D_96 W_prog_12_method_9_code_0 9 rfl rfl) ?_
  refine lv_iconst (v := iI 1) hx hb (D_4 W_prog_12_method_9_code_0 10 rfl rfl) rfl ?_
  refine zsub hx hb (D_100 W_prog_12_method_9_code_0 11 rfl rfl) ?_
  obtain ⟨r3, F3, B3, hc3, hf⟩ := gbind hf
  refine va_calli (va_runV (As := [.int (iI ((l1 + l2) - 1))]) (rest := []) ⟨hx, hb, hml, hown, hts⟩ (c_ByteRow_at (l := l) hc3) (cwV 1 hts (gdV k_3_34 k_3_35 k_3_36 k_1_2 k_3_37) rfl rfl rfl (by decide +kernel) ⟨Nat.le_of_ble_eq_true rfl, Nat.le_of_ble_eq_true rfl⟩) (zPV X hZ2 hS2 (ci := 0) g1.1 g1.2 (r := (RX0, TX0, 3)) rfl [.int (iI ((l1 + l2) - 1))]) rfl rfl hl.1 rfl (lv_room (Nat.le_of_ble_eq_true rfl)) (D_182 W_prog_12_method_9_code_0 12 rfl rfl rfl) ⟨Nat.le_of_ble_eq_true rfl, Nat.le_of_ble_eq_true rfl⟩) hS2 (fun q _ h => zAin X hS2 q h) (zAin X hS2) (fun p3 u3 t3 H3 locs3 ht3 hv3 hw3 hB3 hz3 hk3 hS3 => ?_)
  have hZ3 := zBack X ht3 hB3
  subst hw3
  refine lv_istore (lv' := [(4, .int (iI r3)), (3, .int (iI r2)), (0, .ref (ad 0 l0 0)), (1, .int (iI l1)), (2, .int (iI l2))]) hx hb (D_54 W_prog_12_method_9_code_0 15 rfl rfl) hl (by decide) rfl (fun ls hl => ?_)
  refine lv_iload_n hx hb (D_28 W_prog_12_method_9_code_0 17 rfl rfl) rfl (lv_at hl 4 rfl) ?_
  refine lv_iconst (v := iI 2) hx hb (D_5 W_prog_12_method_9_code_0 18 rfl rfl) rfl ?_
  obtain ⟨g4, hf⟩ := gif hf
  refine zlt (tgt := 53) hx hb g4 (by decide) (D_161 W_prog_12_method_9_code_0 19 rfl rfl rfl) (by decide) (fun h5 => ?_) (fun h5 => ?_)
  · replace hf := gpos hf h5
    exact b_Tokens_isPitch_53 X hf hZ3 hS3 (lv_sub hl [] rfl)
  · replace hf := gneg hf h5
    refine lv_iload_n hx hb (D_28 W_prog_12_method_9_code_0 22 rfl rfl) rfl (lv_at hl 4 rfl) ?_
    refine lv_iconst (v := iI 4) hx hb (D_7 W_prog_12_method_9_code_0 23 rfl rfl) rfl ?_
    refine zgt (tgt := 53) hx hb g4 (by decide) (D_163 W_prog_12_method_9_code_0 24 rfl rfl rfl) (by decide) (fun h6 => ?_) (fun h6 => ?_)
    · replace hf := gpos hf h6
      exact b_Tokens_isPitch_53 X hf hZ3 hS3 (lv_sub hl [] rfl)
    · replace hf := gneg hf h6
      refine lv_iload_n hx hb (D_29 W_prog_12_method_9_code_0 27 rfl rfl) rfl (lv_at hl 1 rfl) ?_
      refine lv_bipush (v := iI 97) hx hb (D_16 W_prog_12_method_9_code_0 28 rfl rfl rfl) (by decide) ?_
      obtain ⟨g7, hf⟩ := gif hf
      refine zlt (tgt := 53) hx hb g7 (by decide) (D_161 W_prog_12_method_9_code_0 30 rfl rfl rfl) (by decide) (fun h8 => ?_) (fun h8 => ?_)
      · replace hf := gpos hf h8
        exact b_Tokens_isPitch_53 X hf hZ3 hS3 (lv_sub hl [] rfl)
      · replace hf := gneg hf h8
        refine lv_iload_n hx hb (D_29 W_prog_12_method_9_code_32 1 rfl rfl) rfl (lv_at hl 1 rfl) ?_
        refine lv_bipush (v := iI 103) hx hb (D_16 W_prog_12_method_9_code_32 2 rfl rfl rfl) (by decide) ?_
        refine zgt (tgt := 53) hx hb g7 (by decide) (D_163 W_prog_12_method_9_code_32 4 rfl rfl rfl) (by decide) (fun h9 => ?_) (fun h9 => ?_)
        · replace hf := gpos hf h9
          exact b_Tokens_isPitch_53 X hf hZ3 hS3 (lv_sub hl [] rfl)
        · replace hf := gneg hf h9
          refine lv_iload hx hb (D_21 W_prog_12_method_9_code_32 7 rfl rfl) (lv_at hl 0 rfl) ?_
          refine lv_bipush (v := iI 48) hx hb (D_16 W_prog_12_method_9_code_32 9 rfl rfl rfl) (by decide) ?_
          obtain ⟨g10, hf⟩ := gif hf
          refine zlt (tgt := 53) hx hb g10 (by decide) (D_161 W_prog_12_method_9_code_32 11 rfl rfl rfl) (by decide) (fun h11 => ?_) (fun h11 => ?_)
          · replace hf := gpos hf h11
            exact b_Tokens_isPitch_53 X hf hZ3 hS3 (lv_sub hl [] rfl)
          · replace hf := gneg hf h11
            refine lv_iload hx hb (D_21 W_prog_12_method_9_code_32 14 rfl rfl) (lv_at hl 0 rfl) ?_
            refine lv_bipush (v := iI 56) hx hb (D_16 W_prog_12_method_9_code_32 16 rfl rfl rfl) (by decide) ?_
            refine zle (tgt := 55) hx hb g10 (by decide) (D_164 W_prog_12_method_9_code_32 18 rfl rfl rfl) (by decide) (fun h12 => ?_) (fun h12 => ?_)
            · replace hf := gpos hf h12
              refine lv_aload_n hx hb (D_42 W_prog_12_method_9_code_32 23 rfl rfl) rfl (lv_at hl 2 rfl) ?_
              refine lv_iload_n hx hb (D_27 W_prog_12_method_9_code_32 24 rfl rfl) rfl (lv_at hl 3 rfl) ?_
              refine lv_iconst (v := iI 1) hx hb (D_4 W_prog_12_method_9_code_32 25 rfl rfl) rfl ?_
              refine zadd hx hb (D_96 W_prog_12_method_9_code_32 26 rfl rfl) ?_
              obtain ⟨r13, F13, B13, hc13, hf⟩ := gbind hf
              refine va_calli (va_runV (As := [.int (iI (l1 + 1))]) (rest := []) ⟨hx, hb, hml, hown, hts⟩ (c_ByteRow_at (l := l) hc13) (cwV 1 hts (gdV k_3_34 k_3_35 k_3_36 k_1_2 k_3_37) rfl rfl rfl (by decide +kernel) ⟨Nat.le_of_ble_eq_true rfl, Nat.le_of_ble_eq_true rfl⟩) (zPV X hZ3 hS3 (ci := 0) g1.1 g1.2 (r := (RX0, TX0, 3)) rfl [.int (iI (l1 + 1))]) rfl rfl hl.1 rfl (lv_room (Nat.le_of_ble_eq_true rfl)) (D_182 W_prog_12_method_9_code_32 27 rfl rfl rfl) ⟨Nat.le_of_ble_eq_true rfl, Nat.le_of_ble_eq_true rfl⟩) hS3 (fun q _ h => zAin X hS3 q h) (zAin X hS3) (fun p13 u13 t13 H13 locs13 ht13 hv13 hw13 hB13 hz13 hk13 hS13 => ?_)
              have hZ13 := zBack X ht13 hB13
              subst hw13
              refine lv_istore (lv' := [(5, .int (iI r13)), (4, .int (iI r3)), (3, .int (iI r2)), (0, .ref (ad 0 l0 0)), (1, .int (iI l1)), (2, .int (iI l2))]) hx hb (D_54 W_prog_12_method_9_code_32 30 rfl rfl) hl (by decide) rfl (fun ls hl => ?_)
              refine lv_iconst (v := iI 1) hx hb (D_4 W_prog_12_method_9_code_64 0 rfl rfl) rfl ?_
              refine lv_istore (lv' := [(6, .int (iI 1)), (5, .int (iI r13)), (4, .int (iI r3)), (3, .int (iI r2)), (0, .ref (ad 0 l0 0)), (1, .int (iI l1)), (2, .int (iI l2))]) hx hb (D_54 W_prog_12_method_9_code_64 1 rfl rfl) hl (by decide) rfl (fun ls hl => ?_)
              exact b_Tokens_isPitch_67 X hf hZ13 hS13 (lv_sub hl [0, 1, 4, 5, 6] rfl)
            · replace hf := gneg hf h12
              exact b_Tokens_isPitch_53 X hf hZ3 hS3 (lv_sub hl [] rfl)

abbrev Q_Tokens_pitchValue (K : zK) (D : va_G) (ca : Nat → ClassId) (ad : Nat → Int → Nat → Nat) (L : List Nat) (r : Int) (F : zF) (B : zB) (A : Nat → Prop) : Array Value → State → Outcome → State → Prop := va_Ql (S := Unit) (fun p _ => p = lI r) (fun _ => zPo D ca ad lnC K.2 L F B A) A
def f_Tokens_pitchValue_54 (K : zK) (l4 : Int) (s0 : Int) (F : zF) (B : zB) : zO := if r32 (((8 * l4) + s0) + 2) then some (((8 * l4) + s0) + 2, F, B) else none
set_option maxHeartbeats 4000000 in
set_option maxRecDepth 100000 in
theorem b_Tokens_pitchValue_54 {D : va_G} {ca : Nat → ClassId} {ad : Nat → Int → Nat → Nat} {L : List Nat} {aS vS : Nat → Nat} {A : Nat → Prop} {p : Program} {l : Launch} {e : Env} {s : State} {m : MethodId} {args : Array Value} {below : List Frame} {meth : Method} {c : Code} {K : zK} {r : Int} {F9 : zF} {B9 : zB} (X : zX D ca L aS vS A p s m args meth c prog_12_method_10_code 6 (Option.some Jvm.ClassFile.FieldType.long) "StaveHouse$Tokens") {l4 : Int} {s0 : Int} {F : zF} {B : zB} {H : Heap} {locs : List Loc} {ls : Array Slot} (hf : f_Tokens_pitchValue_54 K l4 s0 F B = some (r, F9, B9)) (hZ : zH D ca ad lnC K.2 L F B A H) (hS : va_S A s.heap H locs) (hl : lv_has ls 6 [(4, .int (iI l4))]) : W p l e ({ frames := 1, cells := 0, slots := 0, locals := 21 } : Room) s m args below meth c H locs 0 0 (MQ below (Q_Tokens_pitchValue K D ca ad L r F9 B9 A) args s 0 0 A) (F0 m 54 ls [.int (iI s0)]) := by
  obtain ⟨hx, hb, hr, hml, hown, hts, hlk, hK, hA, hL, hX⟩ := id X
  replace hf : (if r32 (((8 * l4) + s0) + 2) then some (((8 * l4) + s0) + 2, F, B) else none) = some (r, F9, B9) := hf
  refine lv_istore (lv' := [(5, .int (iI s0)), (4, .int (iI l4))]) hx hb (D_54 W_prog_12_method_10_code_32 22 rfl rfl) hl (by decide) rfl (fun ls hl => ?_)
  refine lv_bipush (v := iI 8) hx hb (D_16 W_prog_12_method_10_code_32 24 rfl rfl rfl) (by decide) ?_
  refine lv_iload hx hb (D_21 W_prog_12_method_10_code_32 26 rfl rfl) (lv_at hl 1 rfl) ?_
  refine zmul hx hb (D_104 W_prog_12_method_10_code_32 28 rfl rfl) ?_
  refine lv_iload hx hb (D_21 W_prog_12_method_10_code_32 29 rfl rfl) (lv_at hl 0 rfl) ?_
  refine zadd hx hb (D_96 W_prog_12_method_10_code_32 31 rfl rfl) ?_
  refine lv_iconst (v := iI 2) hx hb (D_5 W_prog_12_method_10_code_64 0 rfl rfl) rfl ?_
  refine zadd hx hb (D_96 W_prog_12_method_10_code_64 1 rfl rfl) ?_
  obtain ⟨g7, hf⟩ := gif hf
  refine zi2l hx hb g7 (D_133 W_prog_12_method_10_code_64 2 rfl rfl) ?_
  cases hf
  exact W.lret hx hb hr (fun t ht hW => ⟨⟨_, (), rfl, rfl, by rw [ht]; exact hZ, va_K.moved hW.alike hK⟩, hS.F ht⟩) hS.2.2 (D_173 W_prog_12_method_10_code_64 3 rfl rfl) hlk

def f_Tokens_pitchValue (K : zK) (l0 : Int) (l1 : Int) (l2 : Int) (F : zF) (B : zB) : zO := if 0 ≤ l0 ∧ l0 < K.2 0 then zbind (f_ByteRow_at K l0 l1 F B) (fun r2 F2 B2 => zbind (f_ByteRow_at K l0 ((l1 + l2) - 1) F2 B2) (fun r3 F3 B3 => zbind (f_ByteRow_at K l0 (l1 + 1) F3 B3) (fun r4 F4 B4 => if r32 r4 then (if r4 = 35 then f_Tokens_pitchValue_54 K ((7 * (r3 - 48)) + (zrm ((r2 - 97) + 5) 7)) (l2 - 2) F4 B4 else f_Tokens_pitchValue_54 K ((7 * (r3 - 48)) + (zrm ((r2 - 97) + 5) 7)) (2 - l2) F4 B4) else none))) else none
set_option maxHeartbeats 4000000 in
set_option maxRecDepth 100000 in
theorem c_Tokens_pitchValue {l : Launch} {D : va_G} {ca : Nat → ClassId} {ad : Nat → Int → Nat → Nat} {L : List Nat} {aS vS : Nat → Nat} {sz : Nat} {K : zK}  {l0 : Int} {l1 : Int} {l2 : Int} {F F9 : zF} {B B9 : zB} {r : Int} (hf : f_Tokens_pitchValue K l0 l1 l2 F B = some (r, F9, B9)) : Met l ({ cls := "StaveHouse$Tokens", name := "pitchValue", desc := "(LStaveHouse$ByteRow;II)J" } : Jvm.MethodName) (Cond.code ({ cls := "StaveHouse$Tokens", name := "pitchValue", desc := "(LStaveHouse$ByteRow;II)J" } : Jvm.MethodName) prog_12_method_10_code 6 (Option.some Jvm.ClassFile.FieldType.long) :: wAll) ({ frames := 1, cells := 0, slots := 0, locals := 21 } : Room) (va_Pc [.ref (ad 0 l0 0), .int (iI l1), .int (iI l2)] (zPre D ca ad lnC K.2 L aS vS F B sz)) (Q_Tokens_pitchValue K D ca ad L r F9 B9 (zA L sz)) 0 0 (zA L sz) := by
  refine zMet (Qc := Q_Tokens_pitchValue K D ca ad L r F9 B9) (lv := [(0, .ref (ad 0 l0 0)), (1, .int (iI l1)), (2, .int (iI l2))]) (by decide) (Nat.le_of_ble_eq_true rfl) rfl (fun A p e s m below meth c ls X hZ hS hl => ?_)
  obtain ⟨hx, hb, hr, hml, hown, hts, hlk, hK, hA, hL, hX⟩ := id X
  replace hf : (if 0 ≤ l0 ∧ l0 < K.2 0 then zbind (f_ByteRow_at K l0 l1 F B) (fun r2 F2 B2 => zbind (f_ByteRow_at K l0 ((l1 + l2) - 1) F2 B2) (fun r3 F3 B3 => zbind (f_ByteRow_at K l0 (l1 + 1) F3 B3) (fun r4 F4 B4 => if r32 r4 then (if r4 = 35 then f_Tokens_pitchValue_54 K ((7 * (r3 - 48)) + (zrm ((r2 - 97) + 5) 7)) (l2 - 2) F4 B4 else f_Tokens_pitchValue_54 K ((7 * (r3 - 48)) + (zrm ((r2 - 97) + 5) 7)) (2 - l2) F4 B4) else none))) else none) = some (r, F9, B9) := hf
  refine lv_aload_n hx hb (D_42 W_prog_12_method_10_code_0 0 rfl rfl) rfl (lv_at hl 0 rfl) ?_
  refine lv_iload_n hx hb (D_27 W_prog_12_method_10_code_0 1 rfl rfl) rfl (lv_at hl 1 rfl) ?_
  obtain ⟨g1, hf⟩ := gif hf
  obtain ⟨r2, F2, B2, hc2, hf⟩ := gbind hf
  refine va_calli (va_runV (As := [.int (iI l1)]) (rest := []) ⟨hx, hb, hml, hown, hts⟩ (c_ByteRow_at (l := l) hc2) (cwV 1 hts (gdV k_3_34 k_3_35 k_3_36 k_1_2 k_3_37) rfl rfl rfl (by decide +kernel) ⟨Nat.le_of_ble_eq_true rfl, Nat.le_of_ble_eq_true rfl⟩) (zPV X hZ hS (ci := 0) g1.1 g1.2 (r := (RX0, TX0, 3)) rfl [.int (iI l1)]) rfl rfl hl.1 rfl (lv_room (Nat.le_of_ble_eq_true rfl)) (D_182 W_prog_12_method_10_code_0 2 rfl rfl rfl) ⟨Nat.le_of_ble_eq_true rfl, Nat.le_of_ble_eq_true rfl⟩) hS (fun q _ h => zAin X hS q h) (zAin X hS) (fun p2 u2 t2 H2 locs2 ht2 hv2 hw2 hB2 hz2 hk2 hS2 => ?_)
  have hZ2 := zBack X ht2 hB2
  subst hw2
  refine lv_bipush (v := iI 97) hx hb (D_16 W_prog_12_method_10_code_0 5 rfl rfl rfl) (by decide) ?_
  refine zsub hx hb (D_100 W_prog_12_method_10_code_0 7 rfl rfl) ?_
  refine lv_iconst (v := iI 5) hx hb (D_8 W_prog_12_method_10_code_0 8 rfl rfl) rfl ?_
  refine zadd hx hb (D_96 W_prog_12_method_10_code_0 9 rfl rfl) ?_
  refine lv_bipush (v := iI 7) hx hb (D_16 W_prog_12_method_10_code_0 10 rfl rfl rfl) (by decide) ?_
  refine zrm_r hx hb (by decide) (D_112 W_prog_12_method_10_code_0 12 rfl rfl) ?_
  refine lv_istore_n (lv' := [(3, .int (iI (zrm ((r2 - 97) + 5) 7))), (0, .ref (ad 0 l0 0)), (1, .int (iI l1)), (2, .int (iI l2))]) hx hb (D_62 W_prog_12_method_10_code_0 13 rfl rfl) rfl hl (by decide) rfl (fun ls hl => ?_)
  refine lv_bipush (v := iI 7) hx hb (D_16 W_prog_12_method_10_code_0 14 rfl rfl rfl) (by decide) ?_
  refine lv_aload_n hx hb (D_42 W_prog_12_method_10_code_0 16 rfl rfl) rfl (lv_at hl 1 rfl) ?_
  refine lv_iload_n hx hb (D_27 W_prog_12_method_10_code_0 17 rfl rfl) rfl (lv_at hl 2 rfl) ?_
  refine lv_iload_n hx hb (D_28 W_prog_12_method_10_code_0 18 rfl rfl) rfl (lv_at hl 3 rfl) ?_
  refine zadd hx hb (D_96 W_prog_12_method_10_code_0 19 rfl rfl) ?_
  refine lv_iconst (v := iI 1) hx hb (D_4 W_prog_12_method_10_code_0 20 rfl rfl) rfl ?_
  refine zsub hx hb (D_100 W_prog_12_method_10_code_0 21 rfl rfl) ?_
  obtain ⟨r3, F3, B3, hc3, hf⟩ := gbind hf
  refine va_calli (va_runV (As := [.int (iI ((l1 + l2) - 1))]) (rest := [.int (iI 7)]) ⟨hx, hb, hml, hown, hts⟩ (c_ByteRow_at (l := l) hc3) (cwV 1 hts (gdV k_3_34 k_3_35 k_3_36 k_1_2 k_3_37) rfl rfl rfl (by decide +kernel) ⟨Nat.le_of_ble_eq_true rfl, Nat.le_of_ble_eq_true rfl⟩) (zPV X hZ2 hS2 (ci := 0) g1.1 g1.2 (r := (RX0, TX0, 3)) rfl [.int (iI ((l1 + l2) - 1))]) rfl rfl hl.1 rfl (lv_room (Nat.le_of_ble_eq_true rfl)) (D_182 W_prog_12_method_10_code_0 22 rfl rfl rfl) ⟨Nat.le_of_ble_eq_true rfl, Nat.le_of_ble_eq_true rfl⟩) hS2 (fun q _ h => zAin X hS2 q h) (zAin X hS2) (fun p3 u3 t3 H3 locs3 ht3 hv3 hw3 hB3 hz3 hk3 hS3 => ?_)
  have hZ3 := zBack X ht3 hB3
  subst hw3
  refine lv_bipush (v := iI 48) hx hb (D_16 W_prog_12_method_10_code_0 25 rfl rfl rfl) (by decide) ?_
  refine zsub hx hb (D_100 W_prog_12_method_10_code_0 27 rfl rfl) ?_
  refine zmul hx hb (D_104 W_prog_12_method_10_code_0 28 rfl rfl) ?_
  refine lv_iload_n hx hb (D_29 W_prog_12_method_10_code_0 29 rfl rfl) rfl (lv_at hl 0 rfl) ?_
  refine zadd hx hb (D_96 W_prog_12_method_10_code_0 30 rfl rfl) ?_
  refine lv_istore (lv' := [(4, .int (iI ((7 * (r3 - 48)) + (zrm ((r2 - 97) + 5) 7)))), (3, .int (iI (zrm ((r2 - 97) + 5) 7))), (0, .ref (ad 0 l0 0)), (1, .int (iI l1)), (2, .int (iI l2))]) hx hb (D_54 W_prog_12_method_10_code_0 31 rfl rfl) hl (by decide) rfl (fun ls hl => ?_)
  refine lv_aload_n hx hb (D_42 W_prog_12_method_10_code_32 1 rfl rfl) rfl (lv_at hl 2 rfl) ?_
  refine lv_iload_n hx hb (D_27 W_prog_12_method_10_code_32 2 rfl rfl) rfl (lv_at hl 3 rfl) ?_
  refine lv_iconst (v := iI 1) hx hb (D_4 W_prog_12_method_10_code_32 3 rfl rfl) rfl ?_
  refine zadd hx hb (D_96 W_prog_12_method_10_code_32 4 rfl rfl) ?_
  obtain ⟨r4, F4, B4, hc4, hf⟩ := gbind hf
  refine va_calli (va_runV (As := [.int (iI (l1 + 1))]) (rest := []) ⟨hx, hb, hml, hown, hts⟩ (c_ByteRow_at (l := l) hc4) (cwV 1 hts (gdV k_3_34 k_3_35 k_3_36 k_1_2 k_3_37) rfl rfl rfl (by decide +kernel) ⟨Nat.le_of_ble_eq_true rfl, Nat.le_of_ble_eq_true rfl⟩) (zPV X hZ3 hS3 (ci := 0) g1.1 g1.2 (r := (RX0, TX0, 3)) rfl [.int (iI (l1 + 1))]) rfl rfl hl.1 rfl (lv_room (Nat.le_of_ble_eq_true rfl)) (D_182 W_prog_12_method_10_code_32 5 rfl rfl rfl) ⟨Nat.le_of_ble_eq_true rfl, Nat.le_of_ble_eq_true rfl⟩) hS3 (fun q _ h => zAin X hS3 q h) (zAin X hS3) (fun p4 u4 t4 H4 locs4 ht4 hv4 hw4 hB4 hz4 hk4 hS4 => ?_)
  have hZ4 := zBack X ht4 hB4
  subst hw4
  refine lv_bipush (v := iI 35) hx hb (D_16 W_prog_12_method_10_code_32 8 rfl rfl rfl) (by decide) ?_
  obtain ⟨g5, hf⟩ := gif hf
  refine zne (tgt := 51) hx hb g5 (by decide) (D_160 W_prog_12_method_10_code_32 10 rfl rfl rfl) (by decide) (fun h6 => ?_) (fun h6 => ?_)
  · replace hf := gneg hf h6
    refine lv_iconst (v := iI 2) hx hb (D_5 W_prog_12_method_10_code_32 19 rfl rfl) rfl ?_
    refine lv_iload_n hx hb (D_28 W_prog_12_method_10_code_32 20 rfl rfl) rfl (lv_at hl 4 rfl) ?_
    refine zsub hx hb (D_100 W_prog_12_method_10_code_32 21 rfl rfl) ?_
    exact b_Tokens_pitchValue_54 X hf hZ4 hS4 (lv_sub hl [0] rfl)
  · replace hf := gpos hf h6
    refine lv_iload_n hx hb (D_28 W_prog_12_method_10_code_32 13 rfl rfl) rfl (lv_at hl 4 rfl) ?_
    refine lv_iconst (v := iI 2) hx hb (D_5 W_prog_12_method_10_code_32 14 rfl rfl) rfl ?_
    refine zsub hx hb (D_100 W_prog_12_method_10_code_32 15 rfl rfl) ?_
    refine lv_goto (tgt := 54) hx hb (D_167 W_prog_12_method_10_code_32 16 rfl rfl rfl) (by decide) ?_
    exact b_Tokens_pitchValue_54 X hf hZ4 hS4 (lv_sub hl [0] rfl)

abbrev Q_Tokens_joined (K : zK) (D : va_G) (ca : Nat → ClassId) (ad : Nat → Int → Nat → Nat) (L : List Nat) (r : Int) (F : zF) (B : zB) (A : Nat → Prop) : Array Value → State → Outcome → State → Prop := va_Ql (S := Unit) (fun p _ => p = lI r) (fun _ => zPo D ca ad lnC K.2 L F B A) A
def f_Tokens_joined_6 (K : zK) : Nat → Int → Int → Int → Int → Int → Int → Int → zF → zB → zO
  | 0, _, _, _, _, _, _, _, _, _ => none
  | n + 1, l7, l5, l0, l1, l2, l3, l4, F, B => if r32 l7 then if r32 l2 then (if l2 ≤ l7 then some (l5, F, B) else if r32 l3 then if 0 ≤ l0 ∧ l0 < K.2 0 then zbind (f_ByteRow_at K l0 (l1 + l7) F B) (fun r6 F6 B6 => if r32 r6 then if r32 l4 then f_Tokens_joined_6 K n (l7 + 1) (((l5 * l3) + r6) - l4) l0 l1 l2 l3 l4 F6 B6 else none else none) else none else none) else none else none
set_option maxHeartbeats 4000000 in
set_option maxRecDepth 100000 in
theorem b_Tokens_joined_6 {D : va_G} {ca : Nat → ClassId} {ad : Nat → Int → Nat → Nat} {L : List Nat} {aS vS : Nat → Nat} {A : Nat → Prop} {p : Program} {l : Launch} {e : Env} {s : State} {m : MethodId} {args : Array Value} {below : List Frame} {meth : Method} {c : Code} {K : zK} {r : Int} {F9 : zF} {B9 : zB} (X : zX D ca L aS vS A p s m args meth c prog_12_method_8_code 8 (Option.some Jvm.ClassFile.FieldType.long) "StaveHouse$Tokens") : ∀ {n : Nat} {l7 : Int} {l5 : Int} {l0 : Int} {l1 : Int} {l2 : Int} {l3 : Int} {l4 : Int} {F : zF} {B : zB} {H : Heap} {locs : List Loc} {ls : Array Slot}, f_Tokens_joined_6 K n l7 l5 l0 l1 l2 l3 l4 F B = some (r, F9, B9) → zH D ca ad lnC K.2 L F B A H → va_S A s.heap H locs → lv_has ls 8 [(7, .int (iI l7)), (5, .long (lI l5)), (0, .ref (ad 0 l0 0)), (1, .int (iI l1)), (2, .int (iI l2)), (3, .int (iI l3)), (4, .int (iI l4))] → W p l e ({ frames := 1, cells := 0, slots := 0, locals := 21 } : Room) s m args below meth c H locs 0 0 (MQ below (Q_Tokens_joined K D ca ad L r F9 B9 A) args s 0 0 A) (F0 m 6 ls []) := by
  obtain ⟨hx, hb, hr, hml, hown, hts, hlk, hK, hA, hL, hX⟩ := id X
  intro n
  induction n with
  | zero =>
    intros
    rename_i hf _ _ _
    cases hf
  | succ n ih =>
    intro l7 l5 l0 l1 l2 l3 l4 F B H locs ls hf hZ hS hl
    replace hf : (if r32 l7 then if r32 l2 then (if l2 ≤ l7 then some (l5, F, B) else if r32 l3 then if 0 ≤ l0 ∧ l0 < K.2 0 then zbind (f_ByteRow_at K l0 (l1 + l7) F B) (fun r6 F6 B6 => if r32 r6 then if r32 l4 then f_Tokens_joined_6 K n (l7 + 1) (((l5 * l3) + r6) - l4) l0 l1 l2 l3 l4 F6 B6 else none else none) else none else none) else none else none) = some (r, F9, B9) := hf
    refine lv_iload hx hb (D_21 W_prog_12_method_8_code_0 6 rfl rfl) (lv_at hl 0 rfl) ?_
    refine lv_iload_n hx hb (D_28 W_prog_12_method_8_code_0 8 rfl rfl) rfl (lv_at hl 4 rfl) ?_
    obtain ⟨g1, hf⟩ := gif hf
    obtain ⟨g2, hf⟩ := gif hf
    refine zge (tgt := 39) hx hb g1 g2 (D_162 W_prog_12_method_8_code_0 9 rfl rfl rfl) (by decide) (fun h3 => ?_) (fun h3 => ?_)
    · replace hf := gpos hf h3
      refine lv_lload hx hb (D_22 W_prog_12_method_8_code_32 7 rfl rfl) (lv_at hl 1 rfl) ?_
      cases hf
      exact W.lret hx hb hr (fun t ht hW => ⟨⟨_, (), rfl, rfl, by rw [ht]; exact hZ, va_K.moved hW.alike hK⟩, hS.F ht⟩) hS.2.2 (D_173 W_prog_12_method_8_code_32 9 rfl rfl) hlk
    · replace hf := gneg hf h3
      refine lv_lload hx hb (D_22 W_prog_12_method_8_code_0 12 rfl rfl) (lv_at hl 1 rfl) ?_
      refine lv_iload_n hx hb (D_29 W_prog_12_method_8_code_0 14 rfl rfl) rfl (lv_at hl 5 rfl) ?_
      obtain ⟨g4, hf⟩ := gif hf
      refine zi2l hx hb g4 (D_133 W_prog_12_method_8_code_0 15 rfl rfl) ?_
      refine zlmul hx hb (D_105 W_prog_12_method_8_code_0 16 rfl rfl) ?_
      refine lv_aload_n hx hb (D_42 W_prog_12_method_8_code_0 17 rfl rfl) rfl (lv_at hl 2 rfl) ?_
      refine lv_iload_n hx hb (D_27 W_prog_12_method_8_code_0 18 rfl rfl) rfl (lv_at hl 3 rfl) ?_
      refine lv_iload hx hb (D_21 W_prog_12_method_8_code_0 19 rfl rfl) (lv_at hl 0 rfl) ?_
      refine zadd hx hb (D_96 W_prog_12_method_8_code_0 21 rfl rfl) ?_
      obtain ⟨g5, hf⟩ := gif hf
      obtain ⟨r6, F6, B6, hc6, hf⟩ := gbind hf
      refine va_calli (va_runV (As := [.int (iI (l1 + l7))]) (rest := [.long (lI (l5 * l3))]) ⟨hx, hb, hml, hown, hts⟩ (c_ByteRow_at (l := l) hc6) (cwV 1 hts (gdV k_3_34 k_3_35 k_3_36 k_1_2 k_3_37) rfl rfl rfl (by decide +kernel) ⟨Nat.le_of_ble_eq_true rfl, Nat.le_of_ble_eq_true rfl⟩) (zPV X hZ hS (ci := 0) g5.1 g5.2 (r := (RX0, TX0, 3)) rfl [.int (iI (l1 + l7))]) rfl rfl hl.1 rfl (lv_room (Nat.le_of_ble_eq_true rfl)) (D_182 W_prog_12_method_8_code_0 22 rfl rfl rfl) ⟨Nat.le_of_ble_eq_true rfl, Nat.le_of_ble_eq_true rfl⟩) hS (fun q _ h => zAin X hS q h) (zAin X hS) (fun p6 u6 t6 H6 locs6 ht6 hv6 hw6 hB6 hz6 hk6 hS6 => ?_)
      have hZ6 := zBack X ht6 hB6
      subst hw6
      obtain ⟨g7, hf⟩ := gif hf
      refine zi2l hx hb g7 (D_133 W_prog_12_method_8_code_0 25 rfl rfl) ?_
      refine zladd hx hb (D_97 W_prog_12_method_8_code_0 26 rfl rfl) ?_
      refine lv_iload hx hb (D_21 W_prog_12_method_8_code_0 27 rfl rfl) (lv_at hl 6 rfl) ?_
      obtain ⟨g8, hf⟩ := gif hf
      refine zi2l hx hb g8 (D_133 W_prog_12_method_8_code_0 29 rfl rfl) ?_
      refine zlsub hx hb (D_101 W_prog_12_method_8_code_0 30 rfl rfl) ?_
      refine lv_lstore (lv' := [(5, .long (lI (((l5 * l3) + r6) - l4))), (7, .int (iI l7)), (0, .ref (ad 0 l0 0)), (1, .int (iI l1)), (2, .int (iI l2)), (3, .int (iI l3)), (4, .int (iI l4))]) hx hb (D_55 W_prog_12_method_8_code_0 31 rfl rfl) hl (by decide) rfl (fun ls hl => ?_)
      refine lv_iinc (v := iI (l7 + 1)) (lv' := [(7, .int (iI (l7 + 1))), (5, .long (lI (((l5 * l3) + r6) - l4))), (0, .ref (ad 0 l0 0)), (1, .int (iI l1)), (2, .int (iI l2)), (3, .int (iI l3)), (4, .int (iI l4))]) hx hb d_12_8_33 hl (k := 1) rfl (iI_add _ 1) (by decide) rfl (fun ls hl => ?_)
      refine lv_goto (tgt := 6) hx hb (D_167 W_prog_12_method_8_code_32 4 rfl rfl rfl) (by decide) ?_
      exact ih hf hZ6 hS6 (lv_sub hl [0, 1, 2, 3, 4, 5, 6] rfl)

def f_Tokens_joined (K : zK) (l0 : Int) (l1 : Int) (l2 : Int) (l3 : Int) (l4 : Int) (F : zF) (B : zB) : zO := f_Tokens_joined_6 K K.1 0 0 l0 l1 l2 l3 l4 F B
set_option maxHeartbeats 4000000 in
set_option maxRecDepth 100000 in
theorem c_Tokens_joined {l : Launch} {D : va_G} {ca : Nat → ClassId} {ad : Nat → Int → Nat → Nat} {L : List Nat} {aS vS : Nat → Nat} {sz : Nat} {K : zK}  {l0 : Int} {l1 : Int} {l2 : Int} {l3 : Int} {l4 : Int} {F F9 : zF} {B B9 : zB} {r : Int} (hf : f_Tokens_joined K l0 l1 l2 l3 l4 F B = some (r, F9, B9)) : Met l ({ cls := "StaveHouse$Tokens", name := "joined", desc := "(LStaveHouse$ByteRow;IIII)J" } : Jvm.MethodName) (Cond.code ({ cls := "StaveHouse$Tokens", name := "joined", desc := "(LStaveHouse$ByteRow;IIII)J" } : Jvm.MethodName) prog_12_method_8_code 8 (Option.some Jvm.ClassFile.FieldType.long) :: wAll) ({ frames := 1, cells := 0, slots := 0, locals := 21 } : Room) (va_Pc [.ref (ad 0 l0 0), .int (iI l1), .int (iI l2), .int (iI l3), .int (iI l4)] (zPre D ca ad lnC K.2 L aS vS F B sz)) (Q_Tokens_joined K D ca ad L r F9 B9 (zA L sz)) 0 0 (zA L sz) := by
  refine zMet (Qc := Q_Tokens_joined K D ca ad L r F9 B9) (lv := [(0, .ref (ad 0 l0 0)), (1, .int (iI l1)), (2, .int (iI l2)), (3, .int (iI l3)), (4, .int (iI l4))]) (by decide) (Nat.le_of_ble_eq_true rfl) rfl (fun A p e s m below meth c ls X hZ hS hl => ?_)
  obtain ⟨hx, hb, hr, hml, hown, hts, hlk, hK, hA, hL, hX⟩ := id X
  replace hf : (f_Tokens_joined_6 K K.1 0 0 l0 l1 l2 l3 l4 F B) = some (r, F9, B9) := hf
  refine lv_lconst (v := lI 0) hx hb (D_9 W_prog_12_method_8_code_0 0 rfl rfl) (by decide) ?_
  refine lv_lstore (lv' := [(5, .long (lI 0)), (0, .ref (ad 0 l0 0)), (1, .int (iI l1)), (2, .int (iI l2)), (3, .int (iI l3)), (4, .int (iI l4))]) hx hb (D_55 W_prog_12_method_8_code_0 1 rfl rfl) hl (by decide) rfl (fun ls hl => ?_)
  refine lv_iconst (v := iI 0) hx hb (D_3 W_prog_12_method_8_code_0 3 rfl rfl) rfl ?_
  refine lv_istore (lv' := [(7, .int (iI 0)), (5, .long (lI 0)), (0, .ref (ad 0 l0 0)), (1, .int (iI l1)), (2, .int (iI l2)), (3, .int (iI l3)), (4, .int (iI l4))]) hx hb (D_54 W_prog_12_method_8_code_0 4 rfl rfl) hl (by decide) rfl (fun ls hl => ?_)
  exact b_Tokens_joined_6 X hf hZ hS (lv_sub hl [0, 1, 2, 3, 4, 5, 6] rfl)

abbrev Q_CString_isLatin1 (K : zK) (D : va_G) (ca : Nat → ClassId) (ad : Nat → Int → Nat → Nat) (L : List Nat) (r : Int) (F : zF) (B : zB) (A : Nat → Prop) : Array Value → State → Outcome → State → Prop := va_Qi (S := Unit) (fun p _ => p = iI r) (fun _ => zPo D ca ad lnC K.2 L F B A) A
def f_CString_isLatin1_18 (K : zK) (s0 : Int) (F : zF) (B : zB) : zO := if (s0 = 0 ∨ s0 = 1) then some (s0, F, B) else none
set_option maxHeartbeats 4000000 in
set_option maxRecDepth 100000 in
theorem b_CString_isLatin1_18 {D : va_G} {ca : Nat → ClassId} {ad : Nat → Int → Nat → Nat} {L : List Nat} {aS vS : Nat → Nat} {A : Nat → Prop} {p : Program} {l : Launch} {e : Env} {s : State} {m : MethodId} {args : Array Value} {below : List Frame} {meth : Method} {c : Code} {K : zK} {r : Int} {F9 : zF} {B9 : zB} (X : zX D ca L aS vS A p s m args meth c prog_21_method_154_code 1 (Option.some Jvm.ClassFile.FieldType.boolean) "java/lang/String") {s0 : Int} {F : zF} {B : zB} {H : Heap} {locs : List Loc} {ls : Array Slot} (hf : f_CString_isLatin1_18 K s0 F B = some (r, F9, B9)) (hZ : zH D ca ad lnC K.2 L F B A H) (hS : va_S A s.heap H locs) (hl : lv_has ls 1 []) : W p l e ({ frames := 0, cells := 0, slots := 0, locals := 0 } : Room) s m args below meth c H locs 0 0 (MQ below (Q_CString_isLatin1 K D ca ad L r F9 B9 A) args s 0 0 A) (F0 m 18 ls [.int (iI s0)]) := by
  obtain ⟨hx, hb, hr, hml, hown, hts, hlk, hK, hA, hL, hX⟩ := id X
  replace hf : (if (s0 = 0 ∨ s0 = 1) then some (s0, F, B) else none) = some (r, F9, B9) := hf
  obtain ⟨g4, hf⟩ := gif hf
  cases hf
  exact W.zret hx hb hr (zbool g4) (fun t ht hW => ⟨⟨_, (), rfl, rfl, by rw [ht]; exact hZ, va_K.moved hW.alike hK⟩, hS.F ht⟩) hS.2.2 d_21_154_18 hlk

def f_CString_isLatin1_17 (K : zK)  (F : zF) (B : zB) : zO := f_CString_isLatin1_18 K 0 F B
set_option maxHeartbeats 4000000 in
set_option maxRecDepth 100000 in
theorem b_CString_isLatin1_17 {D : va_G} {ca : Nat → ClassId} {ad : Nat → Int → Nat → Nat} {L : List Nat} {aS vS : Nat → Nat} {A : Nat → Prop} {p : Program} {l : Launch} {e : Env} {s : State} {m : MethodId} {args : Array Value} {below : List Frame} {meth : Method} {c : Code} {K : zK} {r : Int} {F9 : zF} {B9 : zB} (X : zX D ca L aS vS A p s m args meth c prog_21_method_154_code 1 (Option.some Jvm.ClassFile.FieldType.boolean) "java/lang/String")  {F : zF} {B : zB} {H : Heap} {locs : List Loc} {ls : Array Slot} (hf : f_CString_isLatin1_17 K  F B = some (r, F9, B9)) (hZ : zH D ca ad lnC K.2 L F B A H) (hS : va_S A s.heap H locs) (hl : lv_has ls 1 []) : W p l e ({ frames := 0, cells := 0, slots := 0, locals := 0 } : Room) s m args below meth c H locs 0 0 (MQ below (Q_CString_isLatin1 K D ca ad L r F9 B9 A) args s 0 0 A) (F0 m 17 ls []) := by
  obtain ⟨hx, hb, hr, hml, hown, hts, hlk, hK, hA, hL, hX⟩ := id X
  replace hf : (f_CString_isLatin1_18 K 0 F B) = some (r, F9, B9) := hf
  refine lv_iconst (v := iI 0) hx hb d_21_154_17 rfl ?_
  exact b_CString_isLatin1_18 X hf hZ hS (lv_sub hl [] rfl)

def f_CString_isLatin1 (K : zK) (l0 : Nat) (F : zF) (B : zB) : zO := (if (1 : Int) = 0 then f_CString_isLatin1_17 K F B else if l0 < strL.length then (if (0 : Int) = 0 then f_CString_isLatin1_18 K 1 F B else f_CString_isLatin1_17 K F B) else none)
set_option maxHeartbeats 4000000 in
set_option maxRecDepth 100000 in
theorem c_CString_isLatin1 {l : Launch} {D : va_G} {ca : Nat → ClassId} {ad : Nat → Int → Nat → Nat} {L : List Nat} {aS vS : Nat → Nat} {sz : Nat} {K : zK}  {l0 : Nat} {F F9 : zF} {B B9 : zB} {r : Int} (hf : f_CString_isLatin1 K l0 F B = some (r, F9, B9)) : Met l ({ cls := "java/lang/String", name := "isLatin1", desc := "()Z" } : Jvm.MethodName) (Cond.code ({ cls := "java/lang/String", name := "isLatin1", desc := "()Z" } : Jvm.MethodName) prog_21_method_154_code 1 (Option.some Jvm.ClassFile.FieldType.boolean) :: wAll) ({ frames := 0, cells := 0, slots := 0, locals := 0 } : Room) (va_Pc [.ref (aS l0)] (zPre D ca ad lnC K.2 L aS vS F B sz)) (Q_CString_isLatin1 K D ca ad L r F9 B9 (zA L sz)) 0 0 (zA L sz) := by
  refine zMet (Qc := Q_CString_isLatin1 K D ca ad L r F9 B9) (lv := [(0, .ref (aS l0))]) (by decide) (Nat.le_of_ble_eq_true rfl) rfl (fun A p e s m below meth c ls X hZ hS hl => ?_)
  obtain ⟨hx, hb, hr, hml, hown, hts, hlk, hK, hA, hL, hX⟩ := id X
  replace hf : ((if (1 : Int) = 0 then f_CString_isLatin1_17 K F B else if l0 < strL.length then (if (0 : Int) = 0 then f_CString_isLatin1_18 K 1 F B else f_CString_isLatin1_17 K F B) else none)) = some (r, F9, B9) := hf
  refine va_gets hx hb (hX.2.2.2.1 _ (List.mem_of_getElem? (i := 0) rfl) :) hS hown (hts _ k_3_79) (fun _ h => h) d_21_154_0 ?_
  refine W.eq (g2 := F0 m 3 ls [.int (iI 1)]) rfl ?_
  refine z0eq (tgt := 17) hx hb (by decide) d_21_154_3 (by decide) (fun h1 => ?_) (fun h1 => ?_)
  · replace hf := gpos hf h1
    exact b_CString_isLatin1_17 X hf hZ hS (lv_sub hl [] rfl)
  · replace hf := gneg hf h1
    refine lv_aload_n hx hb d_21_154_6 rfl (lv_at hl 0 rfl) ?_
    obtain ⟨g2, hf⟩ := gif hf
    refine vk_getf hx hb (zstr hX g2).1 hS hown (hts _ k_15_171) (fun _ h => h) d_21_154_7 ?_
    refine W.eq (g2 := F0 m 10 ls [.int (iI 0)]) rfl ?_
    refine z0ne (tgt := 17) hx hb (by decide) d_21_154_10 (by decide) (fun h3 => ?_) (fun h3 => ?_)
    · replace hf := gneg hf h3
      exact b_CString_isLatin1_17 X hf hZ hS (lv_sub hl [] rfl)
    · replace hf := gpos hf h3
      refine lv_iconst (v := iI 1) hx hb d_21_154_13 rfl ?_
      refine lv_goto (tgt := 18) hx hb d_21_154_14 (by decide) ?_
      exact b_CString_isLatin1_18 X hf hZ hS (lv_sub hl [] rfl)

abbrev Q_CString_coder (K : zK) (D : va_G) (ca : Nat → ClassId) (ad : Nat → Int → Nat → Nat) (L : List Nat) (r : Int) (F : zF) (B : zB) (A : Nat → Prop) : Array Value → State → Outcome → State → Prop := va_Qi (S := Unit) (fun p _ => p = iI r) (fun _ => zPo D ca ad lnC K.2 L F B A) A
def f_CString_coder_14 (K : zK) (s0 : Int) (F : zF) (B : zB) : zO := if (-128) ≤ s0 ∧ s0 < 128 then some (s0, F, B) else none
set_option maxHeartbeats 4000000 in
set_option maxRecDepth 100000 in
theorem b_CString_coder_14 {D : va_G} {ca : Nat → ClassId} {ad : Nat → Int → Nat → Nat} {L : List Nat} {aS vS : Nat → Nat} {A : Nat → Prop} {p : Program} {l : Launch} {e : Env} {s : State} {m : MethodId} {args : Array Value} {below : List Frame} {meth : Method} {c : Code} {K : zK} {r : Int} {F9 : zF} {B9 : zB} (X : zX D ca L aS vS A p s m args meth c prog_21_method_152_code 1 (Option.some Jvm.ClassFile.FieldType.byte) "java/lang/String") {s0 : Int} {F : zF} {B : zB} {H : Heap} {locs : List Loc} {ls : Array Slot} (hf : f_CString_coder_14 K s0 F B = some (r, F9, B9)) (hZ : zH D ca ad lnC K.2 L F B A H) (hS : va_S A s.heap H locs) (hl : lv_has ls 1 []) : W p l e ({ frames := 0, cells := 0, slots := 0, locals := 0 } : Room) s m args below meth c H locs 0 0 (MQ below (Q_CString_coder K D ca ad L r F9 B9 A) args s 0 0 A) (F0 m 14 ls [.int (iI s0)]) := by
  obtain ⟨hx, hb, hr, hml, hown, hts, hlk, hK, hA, hL, hX⟩ := id X
  replace hf : (if (-128) ≤ s0 ∧ s0 < 128 then some (s0, F, B) else none) = some (r, F9, B9) := hf
  obtain ⟨g3, hf⟩ := gif hf
  cases hf
  exact W.zret hx hb hr (zbyte g3) (fun t ht hW => ⟨⟨_, (), rfl, rfl, by rw [ht]; exact hZ, va_K.moved hW.alike hK⟩, hS.F ht⟩) hS.2.2 d_21_152_14 hlk

def f_CString_coder (K : zK) (l0 : Nat) (F : zF) (B : zB) : zO := (if (1 : Int) = 0 then f_CString_coder_14 K 1 F B else if l0 < strL.length then f_CString_coder_14 K 0 F B else none)
set_option maxHeartbeats 4000000 in
set_option maxRecDepth 100000 in
theorem c_CString_coder {l : Launch} {D : va_G} {ca : Nat → ClassId} {ad : Nat → Int → Nat → Nat} {L : List Nat} {aS vS : Nat → Nat} {sz : Nat} {K : zK}  {l0 : Nat} {F F9 : zF} {B B9 : zB} {r : Int} (hf : f_CString_coder K l0 F B = some (r, F9, B9)) : Met l ({ cls := "java/lang/String", name := "coder", desc := "()B" } : Jvm.MethodName) (Cond.code ({ cls := "java/lang/String", name := "coder", desc := "()B" } : Jvm.MethodName) prog_21_method_152_code 1 (Option.some Jvm.ClassFile.FieldType.byte) :: wAll) ({ frames := 0, cells := 0, slots := 0, locals := 0 } : Room) (va_Pc [.ref (aS l0)] (zPre D ca ad lnC K.2 L aS vS F B sz)) (Q_CString_coder K D ca ad L r F9 B9 (zA L sz)) 0 0 (zA L sz) := by
  refine zMet (Qc := Q_CString_coder K D ca ad L r F9 B9) (lv := [(0, .ref (aS l0))]) (by decide) (Nat.le_of_ble_eq_true rfl) rfl (fun A p e s m below meth c ls X hZ hS hl => ?_)
  obtain ⟨hx, hb, hr, hml, hown, hts, hlk, hK, hA, hL, hX⟩ := id X
  replace hf : ((if (1 : Int) = 0 then f_CString_coder_14 K 1 F B else if l0 < strL.length then f_CString_coder_14 K 0 F B else none)) = some (r, F9, B9) := hf
  refine va_gets hx hb (hX.2.2.2.1 _ (List.mem_of_getElem? (i := 0) rfl) :) hS hown (hts _ k_3_79) (fun _ h => h) d_21_152_0 ?_
  refine W.eq (g2 := F0 m 3 ls [.int (iI 1)]) rfl ?_
  refine z0eq (tgt := 13) hx hb (by decide) d_21_152_3 (by decide) (fun h1 => ?_) (fun h1 => ?_)
  · replace hf := gpos hf h1
    refine lv_iconst (v := iI 1) hx hb d_21_152_13 rfl ?_
    exact b_CString_coder_14 X hf hZ hS (lv_sub hl [] rfl)
  · replace hf := gneg hf h1
    refine lv_aload_n hx hb d_21_152_6 rfl (lv_at hl 0 rfl) ?_
    obtain ⟨g2, hf⟩ := gif hf
    refine vk_getf hx hb (zstr hX g2).1 hS hown (hts _ k_15_171) (fun _ h => h) d_21_152_7 ?_
    refine W.eq (g2 := F0 m 10 ls [.int (iI 0)]) rfl ?_
    refine lv_goto (tgt := 14) hx hb d_21_152_10 (by decide) ?_
    exact b_CString_coder_14 X hf hZ hS (lv_sub hl [] rfl)

abbrev Q_CStringLatin1_canEncode (K : zK) (D : va_G) (ca : Nat → ClassId) (ad : Nat → Int → Nat → Nat) (L : List Nat) (r : Int) (F : zF) (B : zB) (A : Nat → Prop) : Array Value → State → Outcome → State → Prop := va_Qi (S := Unit) (fun p _ => p = iI r) (fun _ => zPo D ca ad lnC K.2 L F B A) A
def f_CStringLatin1_canEncode_16 (K : zK) (s0 : Int) (F : zF) (B : zB) : zO := if (s0 = 0 ∨ s0 = 1) then some (s0, F, B) else none
set_option maxHeartbeats 4000000 in
set_option maxRecDepth 100000 in
theorem b_CStringLatin1_canEncode_16 {D : va_G} {ca : Nat → ClassId} {ad : Nat → Int → Nat → Nat} {L : List Nat} {aS vS : Nat → Nat} {A : Nat → Prop} {p : Program} {l : Launch} {e : Env} {s : State} {m : MethodId} {args : Array Value} {below : List Frame} {meth : Method} {c : Code} {K : zK} {r : Int} {F9 : zF} {B9 : zB} (X : zX D ca L aS vS A p s m args meth c prog_22_method_4_code 1 (Option.some Jvm.ClassFile.FieldType.boolean) "java/lang/StringLatin1") {s0 : Int} {F : zF} {B : zB} {H : Heap} {locs : List Loc} {ls : Array Slot} (hf : f_CStringLatin1_canEncode_16 K s0 F B = some (r, F9, B9)) (hZ : zH D ca ad lnC K.2 L F B A H) (hS : va_S A s.heap H locs) (hl : lv_has ls 1 []) : W p l e ({ frames := 0, cells := 0, slots := 0, locals := 0 } : Room) s m args below meth c H locs 0 0 (MQ below (Q_CStringLatin1_canEncode K D ca ad L r F9 B9 A) args s 0 0 A) (F0 m 16 ls [.int (iI s0)]) := by
  obtain ⟨hx, hb, hr, hml, hown, hts, hlk, hK, hA, hL, hX⟩ := id X
  replace hf : (if (s0 = 0 ∨ s0 = 1) then some (s0, F, B) else none) = some (r, F9, B9) := hf
  obtain ⟨g4, hf⟩ := gif hf
  cases hf
  exact W.zret hx hb hr (zbool g4) (fun t ht hW => ⟨⟨_, (), rfl, rfl, by rw [ht]; exact hZ, va_K.moved hW.alike hK⟩, hS.F ht⟩) hS.2.2 (D_172 W_prog_22_method_4_code_0 16 rfl rfl) hlk

def f_CStringLatin1_canEncode_15 (K : zK)  (F : zF) (B : zB) : zO := f_CStringLatin1_canEncode_16 K 0 F B
set_option maxHeartbeats 4000000 in
set_option maxRecDepth 100000 in
theorem b_CStringLatin1_canEncode_15 {D : va_G} {ca : Nat → ClassId} {ad : Nat → Int → Nat → Nat} {L : List Nat} {aS vS : Nat → Nat} {A : Nat → Prop} {p : Program} {l : Launch} {e : Env} {s : State} {m : MethodId} {args : Array Value} {below : List Frame} {meth : Method} {c : Code} {K : zK} {r : Int} {F9 : zF} {B9 : zB} (X : zX D ca L aS vS A p s m args meth c prog_22_method_4_code 1 (Option.some Jvm.ClassFile.FieldType.boolean) "java/lang/StringLatin1")  {F : zF} {B : zB} {H : Heap} {locs : List Loc} {ls : Array Slot} (hf : f_CStringLatin1_canEncode_15 K  F B = some (r, F9, B9)) (hZ : zH D ca ad lnC K.2 L F B A H) (hS : va_S A s.heap H locs) (hl : lv_has ls 1 []) : W p l e ({ frames := 0, cells := 0, slots := 0, locals := 0 } : Room) s m args below meth c H locs 0 0 (MQ below (Q_CStringLatin1_canEncode K D ca ad L r F9 B9 A) args s 0 0 A) (F0 m 15 ls []) := by
  obtain ⟨hx, hb, hr, hml, hown, hts, hlk, hK, hA, hL, hX⟩ := id X
  replace hf : (f_CStringLatin1_canEncode_16 K 0 F B) = some (r, F9, B9) := hf
  refine lv_iconst (v := iI 0) hx hb (D_3 W_prog_22_method_4_code_0 15 rfl rfl) rfl ?_
  exact b_CStringLatin1_canEncode_16 X hf hZ hS (lv_sub hl [] rfl)

def f_CStringLatin1_canEncode (K : zK) (l0 : Int) (F : zF) (B : zB) : zO := if r32 l0 then (if l0 < 0 then f_CStringLatin1_canEncode_15 K F B else (if 255 < l0 then f_CStringLatin1_canEncode_15 K F B else f_CStringLatin1_canEncode_16 K 1 F B)) else none
set_option maxHeartbeats 4000000 in
set_option maxRecDepth 100000 in
theorem c_CStringLatin1_canEncode {l : Launch} {D : va_G} {ca : Nat → ClassId} {ad : Nat → Int → Nat → Nat} {L : List Nat} {aS vS : Nat → Nat} {sz : Nat} {K : zK}  {l0 : Int} {F F9 : zF} {B B9 : zB} {r : Int} (hf : f_CStringLatin1_canEncode K l0 F B = some (r, F9, B9)) : Met l ({ cls := "java/lang/StringLatin1", name := "canEncode", desc := "(I)Z" } : Jvm.MethodName) (Cond.code ({ cls := "java/lang/StringLatin1", name := "canEncode", desc := "(I)Z" } : Jvm.MethodName) prog_22_method_4_code 1 (Option.some Jvm.ClassFile.FieldType.boolean) :: wAll) ({ frames := 0, cells := 0, slots := 0, locals := 0 } : Room) (va_Pc [.int (iI l0)] (zPre D ca ad lnC K.2 L aS vS F B sz)) (Q_CStringLatin1_canEncode K D ca ad L r F9 B9 (zA L sz)) 0 0 (zA L sz) := by
  refine zMet (Qc := Q_CStringLatin1_canEncode K D ca ad L r F9 B9) (lv := [(0, .int (iI l0))]) (by decide) (Nat.le_of_ble_eq_true rfl) rfl (fun A p e s m below meth c ls X hZ hS hl => ?_)
  obtain ⟨hx, hb, hr, hml, hown, hts, hlk, hK, hA, hL, hX⟩ := id X
  replace hf : (if r32 l0 then (if l0 < 0 then f_CStringLatin1_canEncode_15 K F B else (if 255 < l0 then f_CStringLatin1_canEncode_15 K F B else f_CStringLatin1_canEncode_16 K 1 F B)) else none) = some (r, F9, B9) := hf
  refine lv_iload_n hx hb (D_26 W_prog_22_method_4_code_0 0 rfl rfl) rfl (lv_at hl 0 rfl) ?_
  obtain ⟨g1, hf⟩ := gif hf
  refine z0lt (tgt := 15) hx hb g1 (D_155 W_prog_22_method_4_code_0 1 rfl rfl rfl) (by decide) (fun h2 => ?_) (fun h2 => ?_)
  · replace hf := gpos hf h2
    exact b_CStringLatin1_canEncode_15 X hf hZ hS (lv_sub hl [] rfl)
  · replace hf := gneg hf h2
    refine lv_iload_n hx hb (D_26 W_prog_22_method_4_code_0 4 rfl rfl) rfl (lv_at hl 0 rfl) ?_
    refine lv_sipush (v := iI 255) hx hb (D_17 W_prog_22_method_4_code_0 5 rfl rfl rfl) (by decide) ?_
    refine zgt (tgt := 15) hx hb g1 (by decide) (D_163 W_prog_22_method_4_code_0 8 rfl rfl rfl) (by decide) (fun h3 => ?_) (fun h3 => ?_)
    · replace hf := gpos hf h3
      exact b_CStringLatin1_canEncode_15 X hf hZ hS (lv_sub hl [] rfl)
    · replace hf := gneg hf h3
      refine lv_iconst (v := iI 1) hx hb (D_4 W_prog_22_method_4_code_0 11 rfl rfl) rfl ?_
      refine lv_goto (tgt := 16) hx hb (D_167 W_prog_22_method_4_code_0 12 rfl rfl rfl) (by decide) ?_
      exact b_CStringLatin1_canEncode_16 X hf hZ hS (lv_sub hl [] rfl)

abbrev Q_CStringLatin1_indexOfChar (K : zK) (D : va_G) (ca : Nat → ClassId) (ad : Nat → Int → Nat → Nat) (L : List Nat) (r : Int) (F : zF) (B : zB) (A : Nat → Prop) : Array Value → State → Outcome → State → Prop := va_Qi (S := Unit) (fun p _ => p = iI r) (fun _ => zPo D ca ad lnC K.2 L F B A) A
def f_CStringLatin1_indexOfChar_7 (K : zK) : Nat → Int → Int → Nat → Int → zF → zB → zO
  | 0, _, _, _, _, _, _ => none
  | n + 1, l5, l4, l0, l3, F, B => if r32 l5 then if r32 l3 then (if l3 ≤ l5 then some ((-1), F, B) else if l0 < strL.length then if 0 ≤ l5 ∧ l5 < zsl l0 then if r32 (zsb l0 l5) then if r32 l4 then (if (zsb l0 l5) = l4 then some (l5, F, B) else f_CStringLatin1_indexOfChar_7 K n (l5 + 1) l4 l0 l3 F B) else none else none else none else none) else none else none
set_option maxHeartbeats 4000000 in
set_option maxRecDepth 100000 in
theorem b_CStringLatin1_indexOfChar_7 {D : va_G} {ca : Nat → ClassId} {ad : Nat → Int → Nat → Nat} {L : List Nat} {aS vS : Nat → Nat} {A : Nat → Prop} {p : Program} {l : Launch} {e : Env} {s : State} {m : MethodId} {args : Array Value} {below : List Frame} {meth : Method} {c : Code} {K : zK} {r : Int} {F9 : zF} {B9 : zB} (X : zX D ca L aS vS A p s m args meth c prog_22_method_23_code 6 (Option.some Jvm.ClassFile.FieldType.int) "java/lang/StringLatin1") : ∀ {n : Nat} {l5 : Int} {l4 : Int} {l0 : Nat} {l3 : Int} {F : zF} {B : zB} {H : Heap} {locs : List Loc} {ls : Array Slot}, f_CStringLatin1_indexOfChar_7 K n l5 l4 l0 l3 F B = some (r, F9, B9) → zH D ca ad lnC K.2 L F B A H → va_S A s.heap H locs → lv_has ls 6 [(5, .int (iI l5)), (4, .int (iI l4)), (0, .ref (vS l0)), (3, .int (iI l3))] → W p l e ({ frames := 0, cells := 0, slots := 0, locals := 0 } : Room) s m args below meth c H locs 0 0 (MQ below (Q_CStringLatin1_indexOfChar K D ca ad L r F9 B9 A) args s 0 0 A) (F0 m 7 ls []) := by
  obtain ⟨hx, hb, hr, hml, hown, hts, hlk, hK, hA, hL, hX⟩ := id X
  intro n
  induction n with
  | zero =>
    intros
    rename_i hf _ _ _
    cases hf
  | succ n ih =>
    intro l5 l4 l0 l3 F B H locs ls hf hZ hS hl
    replace hf : (if r32 l5 then if r32 l3 then (if l3 ≤ l5 then some ((-1), F, B) else if l0 < strL.length then if 0 ≤ l5 ∧ l5 < zsl l0 then if r32 (zsb l0 l5) then if r32 l4 then (if (zsb l0 l5) = l4 then some (l5, F, B) else f_CStringLatin1_indexOfChar_7 K n (l5 + 1) l4 l0 l3 F B) else none else none else none else none) else none else none) = some (r, F9, B9) := hf
    refine lv_iload hx hb (D_21 W_prog_22_method_23_code_0 7 rfl rfl) (lv_at hl 0 rfl) ?_
    refine lv_iload_n hx hb (D_29 W_prog_22_method_23_code_0 9 rfl rfl) rfl (lv_at hl 3 rfl) ?_
    obtain ⟨g1, hf⟩ := gif hf
    obtain ⟨g2, hf⟩ := gif hf
    refine zge (tgt := 31) hx hb g1 g2 (D_162 W_prog_22_method_23_code_0 10 rfl rfl rfl) (by decide) (fun h3 => ?_) (fun h3 => ?_)
    · replace hf := gpos hf h3
      refine lv_iconst (v := iI (-1)) hx hb (D_2 W_prog_22_method_23_code_0 31 rfl rfl) rfl ?_
      cases hf
      exact W.iret hx hb hr (fun t ht hW => ⟨⟨_, (), rfl, rfl, by rw [ht]; exact hZ, va_K.moved hW.alike hK⟩, hS.F ht⟩) hS.2.2 (D_172 W_prog_22_method_23_code_32 0 rfl rfl) hlk
    · replace hf := gneg hf h3
      refine lv_aload_n hx hb (D_42 W_prog_22_method_23_code_0 13 rfl rfl) rfl (lv_at hl 2 rfl) ?_
      refine lv_iload hx hb (D_21 W_prog_22_method_23_code_0 14 rfl rfl) (lv_at hl 0 rfl) ?_
      obtain ⟨g4, hf⟩ := gif hf
      obtain ⟨g5, hf⟩ := gif hf
      refine va_tb (v := .int (iI (zsb l0 l5))) hx hb (zstr hX g4).2.2.1 hS (zs_in g4 g5) (zsb_v g4 g5) (D_51 W_prog_22_method_23_code_0 16 rfl rfl) ?_
      refine lv_iload hx hb (D_21 W_prog_22_method_23_code_0 17 rfl rfl) (lv_at hl 1 rfl) ?_
      obtain ⟨g6, hf⟩ := gif hf
      obtain ⟨g7, hf⟩ := gif hf
      refine zne (tgt := 25) hx hb g6 g7 (D_160 W_prog_22_method_23_code_0 19 rfl rfl rfl) (by decide) (fun h8 => ?_) (fun h8 => ?_)
      · replace hf := gneg hf h8
        refine lv_iinc (v := iI (l5 + 1)) (lv' := [(5, .int (iI (l5 + 1))), (4, .int (iI l4)), (0, .ref (vS l0)), (3, .int (iI l3))]) hx hb d_22_23_25 hl (k := 0) rfl (iI_add _ 1) (by decide) rfl (fun ls hl => ?_)
        refine lv_goto (tgt := 7) hx hb (D_167 W_prog_22_method_23_code_0 28 rfl rfl rfl) (by decide) ?_
        exact ih hf hZ hS (lv_sub hl [0, 1, 2, 3] rfl)
      · replace hf := gpos hf h8
        refine lv_iload hx hb (D_21 W_prog_22_method_23_code_0 22 rfl rfl) (lv_at hl 0 rfl) ?_
        cases hf
        exact W.iret hx hb hr (fun t ht hW => ⟨⟨_, (), rfl, rfl, by rw [ht]; exact hZ, va_K.moved hW.alike hK⟩, hS.F ht⟩) hS.2.2 (D_172 W_prog_22_method_23_code_0 24 rfl rfl) hlk

def f_CStringLatin1_indexOfChar (K : zK) (l0 : Nat) (l1 : Int) (l2 : Int) (l3 : Int) (F : zF) (B : zB) : zO := f_CStringLatin1_indexOfChar_7 K K.1 l2 (zi2b l1) l0 l3 F B
set_option maxHeartbeats 4000000 in
set_option maxRecDepth 100000 in
theorem c_CStringLatin1_indexOfChar {l : Launch} {D : va_G} {ca : Nat → ClassId} {ad : Nat → Int → Nat → Nat} {L : List Nat} {aS vS : Nat → Nat} {sz : Nat} {K : zK}  {l0 : Nat} {l1 : Int} {l2 : Int} {l3 : Int} {F F9 : zF} {B B9 : zB} {r : Int} (hf : f_CStringLatin1_indexOfChar K l0 l1 l2 l3 F B = some (r, F9, B9)) : Met l ({ cls := "java/lang/StringLatin1", name := "indexOfChar", desc := "([BIII)I" } : Jvm.MethodName) (Cond.code ({ cls := "java/lang/StringLatin1", name := "indexOfChar", desc := "([BIII)I" } : Jvm.MethodName) prog_22_method_23_code 6 (Option.some Jvm.ClassFile.FieldType.int) :: wAll) ({ frames := 0, cells := 0, slots := 0, locals := 0 } : Room) (va_Pc [.ref (vS l0), .int (iI l1), .int (iI l2), .int (iI l3)] (zPre D ca ad lnC K.2 L aS vS F B sz)) (Q_CStringLatin1_indexOfChar K D ca ad L r F9 B9 (zA L sz)) 0 0 (zA L sz) := by
  refine zMet (Qc := Q_CStringLatin1_indexOfChar K D ca ad L r F9 B9) (lv := [(0, .ref (vS l0)), (1, .int (iI l1)), (2, .int (iI l2)), (3, .int (iI l3))]) (by decide) (Nat.le_of_ble_eq_true rfl) rfl (fun A p e s m below meth c ls X hZ hS hl => ?_)
  obtain ⟨hx, hb, hr, hml, hown, hts, hlk, hK, hA, hL, hX⟩ := id X
  replace hf : (f_CStringLatin1_indexOfChar_7 K K.1 l2 (zi2b l1) l0 l3 F B) = some (r, F9, B9) := hf
  refine lv_iload_n hx hb (D_27 W_prog_22_method_23_code_0 0 rfl rfl) rfl (lv_at hl 1 rfl) ?_
  refine zi2b_r hx hb (D_145 W_prog_22_method_23_code_0 1 rfl rfl) ?_
  refine lv_istore (lv' := [(4, .int (iI (zi2b l1))), (0, .ref (vS l0)), (1, .int (iI l1)), (2, .int (iI l2)), (3, .int (iI l3))]) hx hb (D_54 W_prog_22_method_23_code_0 2 rfl rfl) hl (by decide) rfl (fun ls hl => ?_)
  refine lv_iload_n hx hb (D_28 W_prog_22_method_23_code_0 4 rfl rfl) rfl (lv_at hl 3 rfl) ?_
  refine lv_istore (lv' := [(5, .int (iI l2)), (4, .int (iI (zi2b l1))), (0, .ref (vS l0)), (1, .int (iI l1)), (2, .int (iI l2)), (3, .int (iI l3))]) hx hb (D_54 W_prog_22_method_23_code_0 5 rfl rfl) hl (by decide) rfl (fun ls hl => ?_)
  exact b_CStringLatin1_indexOfChar_7 X hf hZ hS (lv_sub hl [0, 1, 2, 5] rfl)

abbrev Q_CString_checkBoundsBeginEnd (K : zK) (D : va_G) (ca : Nat → ClassId) (ad : Nat → Int → Nat → Nat) (L : List Nat) (r : Int) (F : zF) (B : zB) (A : Nat → Prop) : Array Value → State → Outcome → State → Prop := va_Qv (S := Unit) (fun _ => True) (fun _ => zPo D ca ad lnC K.2 L F B A) A
def f_CString_checkBoundsBeginEnd (K : zK) (l0 : Int) (l1 : Int) (l2 : Int) (F : zF) (B : zB) : zO := zbind (f_CPreconditions_checkFromToIndex K l0 l1 l2 F B) (fun r2 F2 B2 => some (0, F2, B2))
set_option maxHeartbeats 4000000 in
set_option maxRecDepth 100000 in
theorem c_CString_checkBoundsBeginEnd {l : Launch} {D : va_G} {ca : Nat → ClassId} {ad : Nat → Int → Nat → Nat} {L : List Nat} {aS vS : Nat → Nat} {sz : Nat} {K : zK}  {l0 : Int} {l1 : Int} {l2 : Int} {F F9 : zF} {B B9 : zB} {r : Int} (hf : f_CString_checkBoundsBeginEnd K l0 l1 l2 F B = some (r, F9, B9)) : Met l ({ cls := "java/lang/String", name := "checkBoundsBeginEnd", desc := "(III)V" } : Jvm.MethodName) (Cond.code ({ cls := "java/lang/String", name := "checkBoundsBeginEnd", desc := "(III)V" } : Jvm.MethodName) prog_21_method_158_code 3 (Option.none : Option Jvm.ClassFile.FieldType) :: wAll) ({ frames := 1, cells := 0, slots := 0, locals := 23 } : Room) (va_Pc [.int (iI l0), .int (iI l1), .int (iI l2)] (zPre D ca ad lnC K.2 L aS vS F B sz)) (Q_CString_checkBoundsBeginEnd K D ca ad L r F9 B9 (zA L sz)) 0 0 (zA L sz) := by
  refine zMet (Qc := Q_CString_checkBoundsBeginEnd K D ca ad L r F9 B9) (lv := [(0, .int (iI l0)), (1, .int (iI l1)), (2, .int (iI l2))]) (by decide) (Nat.le_of_ble_eq_true rfl) rfl (fun A p e s m below meth c ls X hZ hS hl => ?_)
  obtain ⟨hx, hb, hr, hml, hown, hts, hlk, hK, hA, hL, hX⟩ := id X
  replace hf : (zbind (f_CPreconditions_checkFromToIndex K l0 l1 l2 F B) (fun r2 F2 B2 => some (0, F2, B2))) = some (r, F9, B9) := hf
  refine lv_iload_n hx hb (D_26 W_prog_21_method_158_code_0 0 rfl rfl) rfl (lv_at hl 0 rfl) ?_
  refine lv_iload_n hx hb (D_27 W_prog_21_method_158_code_0 1 rfl rfl) rfl (lv_at hl 1 rfl) ?_
  refine lv_iload_n hx hb (D_28 W_prog_21_method_158_code_0 2 rfl rfl) rfl (lv_at hl 2 rfl) ?_
  obtain ⟨o1, ho1⟩ := zfmt hX
  refine va_gets hx hb ho1 hS hown (hts _ k_3_120) (fun _ h => h) (D_178 W_prog_21_method_158_code_0 3 rfl rfl rfl) ?_
  obtain ⟨r2, F2, B2, hc2, hf⟩ := gbind hf
  refine va_calli (va_runS (As := [.int (iI l0), .int (iI l1), .int (iI l2), va_rf o1]) (rest := []) ⟨hx, hb, hml, hown, hts⟩ (c_CPreconditions_checkFromToIndex (l := l) hc2) (va_cwS 4 hts (gdS k_3_122 k_3_123 k_1_13 k_3_124) rfl rfl rfl (by decide +kernel) ⟨Nat.le_of_ble_eq_true rfl, Nat.le_of_ble_eq_true rfl⟩) (zPS X hZ hS [.int (iI l0), .int (iI l1), .int (iI l2), va_rf o1]) rfl rfl hl.1 rfl (lv_room (Nat.le_of_ble_eq_true rfl)) (D_184 W_prog_21_method_158_code_0 6 rfl rfl rfl) ⟨Nat.le_of_ble_eq_true rfl, Nat.le_of_ble_eq_true rfl⟩) hS (fun q _ h => zAin X hS q h) (zAin X hS) (fun p2 u2 t2 H2 locs2 ht2 hv2 hw2 hB2 hz2 hk2 hS2 => ?_)
  have hZ2 := zBack X ht2 hB2
  subst hw2
  refine lv_pop hx hb (D_87 W_prog_21_method_158_code_0 9 rfl rfl) rfl ?_
  cases hf
  exact W.vret hx hb hr (fun t ht hW => ⟨⟨(), rfl, trivial, by rw [ht]; exact hZ2, va_K.moved hW.alike hK⟩, hS2.F ht⟩) hS2.2.2 (D_177 W_prog_21_method_158_code_0 10 rfl rfl) hlk

abbrev Q_Tokens_advance (K : zK) (D : va_G) (ca : Nat → ClassId) (ad : Nat → Int → Nat → Nat) (L : List Nat) (r : Int) (F : zF) (B : zB) (A : Nat → Prop) : Array Value → State → Outcome → State → Prop := va_Qv (S := Unit) (fun _ => True) (fun _ => zPo D ca ad lnC K.2 L F B A) A
def f_Tokens_advance_100 (K : zK)  (F : zF) (B : zB) : zO := some (0, F, B)
set_option maxHeartbeats 4000000 in
set_option maxRecDepth 100000 in
theorem b_Tokens_advance_100 {D : va_G} {ca : Nat → ClassId} {ad : Nat → Int → Nat → Nat} {L : List Nat} {aS vS : Nat → Nat} {A : Nat → Prop} {p : Program} {l : Launch} {e : Env} {s : State} {m : MethodId} {args : Array Value} {below : List Frame} {meth : Method} {c : Code} {K : zK} {r : Int} {F9 : zF} {B9 : zB} (X : zX D ca L aS vS A p s m args meth c prog_12_method_3_code 1 (Option.none : Option Jvm.ClassFile.FieldType) "StaveHouse$Tokens")  {F : zF} {B : zB} {H : Heap} {locs : List Loc} {ls : Array Slot} (hf : f_Tokens_advance_100 K  F B = some (r, F9, B9)) (hZ : zH D ca ad lnC K.2 L F B A H) (hS : va_S A s.heap H locs) (hl : lv_has ls 1 []) : W p l e ({ frames := 0, cells := 0, slots := 0, locals := 0 } : Room) s m args below meth c H locs 0 0 (MQ below (Q_Tokens_advance K D ca ad L r F9 B9 A) args s 0 0 A) (F0 m 100 ls []) := by
  obtain ⟨hx, hb, hr, hml, hown, hts, hlk, hK, hA, hL, hX⟩ := id X
  replace hf : (some (0, F, B)) = some (r, F9, B9) := hf
  cases hf
  exact W.vret hx hb hr (fun t ht hW => ⟨⟨(), rfl, trivial, by rw [ht]; exact hZ, va_K.moved hW.alike hK⟩, hS.F ht⟩) hS.2.2 (D_177 W_prog_12_method_3_code_96 4 rfl rfl) hlk

def f_Tokens_advance_73 (K : zK) (l0 : Int) (F : zF) (B : zB) : zO := if 0 ≤ l0 ∧ l0 < K.2 10 then if r32 (F 10 l0 0) then (if (F 10 l0 0) = 0 then f_Tokens_advance_100 K F B else if r32 (F 10 l0 8) then (if 3000 ≤ (F 10 l0 8) then f_Tokens_advance_100 K F B else f_Tokens_advance_100 K (zup3 F 10 l0 8 ((F 10 l0 8) + 1)) B) else none) else none else none
set_option maxHeartbeats 4000000 in
set_option maxRecDepth 100000 in
theorem b_Tokens_advance_73 {D : va_G} {ca : Nat → ClassId} {ad : Nat → Int → Nat → Nat} {L : List Nat} {aS vS : Nat → Nat} {A : Nat → Prop} {p : Program} {l : Launch} {e : Env} {s : State} {m : MethodId} {args : Array Value} {below : List Frame} {meth : Method} {c : Code} {K : zK} {r : Int} {F9 : zF} {B9 : zB} (X : zX D ca L aS vS A p s m args meth c prog_12_method_3_code 1 (Option.none : Option Jvm.ClassFile.FieldType) "StaveHouse$Tokens") {l0 : Int} {F : zF} {B : zB} {H : Heap} {locs : List Loc} {ls : Array Slot} (hf : f_Tokens_advance_73 K l0 F B = some (r, F9, B9)) (hZ : zH D ca ad lnC K.2 L F B A H) (hS : va_S A s.heap H locs) (hl : lv_has ls 1 [(0, .ref (ad 10 l0 0))]) : W p l e ({ frames := 0, cells := 0, slots := 0, locals := 0 } : Room) s m args below meth c H locs 0 0 (MQ below (Q_Tokens_advance K D ca ad L r F9 B9 A) args s 0 0 A) (F0 m 73 ls []) := by
  obtain ⟨hx, hb, hr, hml, hown, hts, hlk, hK, hA, hL, hX⟩ := id X
  replace hf : (if 0 ≤ l0 ∧ l0 < K.2 10 then if r32 (F 10 l0 0) then (if (F 10 l0 0) = 0 then f_Tokens_advance_100 K F B else if r32 (F 10 l0 8) then (if 3000 ≤ (F 10 l0 8) then f_Tokens_advance_100 K F B else f_Tokens_advance_100 K (zup3 F 10 l0 8 ((F 10 l0 8) + 1)) B) else none) else none else none) = some (r, F9, B9) := hf
  refine lv_aload_n hx hb (D_42 W_prog_12_method_3_code_64 9 rfl rfl) rfl (lv_at hl 0 rfl) ?_
  obtain ⟨g10, hf⟩ := gif hf
  refine zget (ci := 10) (C := RX10) (T := TX10) (v := .int (iI (F 10 l0 0))) (k := 0) hx hb hts inW_10 hown hK hZ g10.1 g10.2 rfl (by decide) k_1_73 rfl (D_180 W_prog_12_method_3_code_64 10 rfl rfl rfl) ?_
  obtain ⟨g11, hf⟩ := gif hf
  refine z0eq (tgt := 100) hx hb g11 (D_153 W_prog_12_method_3_code_64 13 rfl rfl rfl) (by decide) (fun h12 => ?_) (fun h12 => ?_)
  · replace hf := gpos hf h12
    exact b_Tokens_advance_100 X hf hZ hS (lv_sub hl [] rfl)
  · replace hf := gneg hf h12
    refine lv_aload_n hx hb (D_42 W_prog_12_method_3_code_64 16 rfl rfl) rfl (lv_at hl 0 rfl) ?_
    refine zget (ci := 10) (C := RX10) (T := TX10) (v := .int (iI (F 10 l0 8))) (k := 8) hx hb hts inW_10 hown hK hZ g10.1 g10.2 rfl (by decide) k_1_85 rfl (D_180 W_prog_12_method_3_code_64 17 rfl rfl rfl) ?_
    refine lv_sipush (v := iI 3000) hx hb (D_17 W_prog_12_method_3_code_64 20 rfl rfl rfl) (by decide) ?_
    obtain ⟨g13, hf⟩ := gif hf
    refine zge (tgt := 100) hx hb g13 (by decide) (D_162 W_prog_12_method_3_code_64 23 rfl rfl rfl) (by decide) (fun h14 => ?_) (fun h14 => ?_)
    · replace hf := gpos hf h14
      exact b_Tokens_advance_100 X hf hZ hS (lv_sub hl [] rfl)
    · replace hf := gneg hf h14
      refine lv_aload_n hx hb (D_42 W_prog_12_method_3_code_64 26 rfl rfl) rfl (lv_at hl 0 rfl) ?_
      refine lv_dup hx hb (D_89 W_prog_12_method_3_code_64 27 rfl rfl) rfl ?_
      refine zget (ci := 10) (C := RX10) (T := TX10) (v := .int (iI (F 10 l0 8))) (k := 8) hx hb hts inW_10 hown hK hZ g10.1 g10.2 rfl (by decide) k_1_85 rfl (D_180 W_prog_12_method_3_code_64 28 rfl rfl rfl) ?_
      refine lv_iconst (v := iI 1) hx hb (D_4 W_prog_12_method_3_code_64 31 rfl rfl) rfl ?_
      refine zadd hx hb (D_96 W_prog_12_method_3_code_96 0 rfl rfl) ?_
      refine zput (ci := 10) (C := RX10) (T := TX10) (k := 8) (v := ((F 10 l0 8) + 1)) (w := .int (iI ((F 10 l0 8) + 1))) hx hb hts inW_10 tyX10 tyX10_ok nmX10 hown hK hZ hS g10.1 g10.2 rfl (by decide) k_1_85 rfl (fun G h => congrArg (fun q => Value.int (iI q)) h) rfl rfl (zno (by decide)) (D_181 W_prog_12_method_3_code_96 1 rfl rfl rfl) (fun H15 locs15 hZ15 hS15 => ?_)
      exact b_Tokens_advance_100 X hf hZ15 hS15 (lv_sub hl [] rfl)

def f_Tokens_advance (K : zK) (l0 : Int) (F : zF) (B : zB) : zO := if 0 ≤ l0 ∧ l0 < K.2 10 then if 0 ≤ (F 10 l0 8) ∧ (F 10 l0 8) < 3001 then if r32 (B 10 l0 5 (F 10 l0 8)) then (if (B 10 l0 5 (F 10 l0 8)) = 2 then f_Tokens_advance_73 K l0 (zup3 (zup3 (zup3 (zup3 (zup3 F 10 l0 0 (B 10 l0 5 (F 10 l0 8))) 10 l0 1 (B 10 l0 6 (F 10 l0 8))) 10 l0 2 (B 10 l0 7 (F 10 l0 8))) 10 l0 3 (zdv (B 10 l0 7 (F 10 l0 8)) 8)) 10 l0 4 ((zrm (B 10 l0 7 (F 10 l0 8)) 8) - 2)) B else f_Tokens_advance_73 K l0 (zup3 (zup3 (zup3 F 10 l0 0 (B 10 l0 5 (F 10 l0 8))) 10 l0 1 (B 10 l0 6 (F 10 l0 8))) 10 l0 2 (B 10 l0 7 (F 10 l0 8))) B) else none else none else none
set_option maxHeartbeats 4000000 in
set_option maxRecDepth 100000 in
theorem c_Tokens_advance {l : Launch} {D : va_G} {ca : Nat → ClassId} {ad : Nat → Int → Nat → Nat} {L : List Nat} {aS vS : Nat → Nat} {sz : Nat} {K : zK}  {l0 : Int} {F F9 : zF} {B B9 : zB} {r : Int} (hf : f_Tokens_advance K l0 F B = some (r, F9, B9)) : Met l ({ cls := "StaveHouse$Tokens", name := "advance", desc := "()V" } : Jvm.MethodName) (Cond.code ({ cls := "StaveHouse$Tokens", name := "advance", desc := "()V" } : Jvm.MethodName) prog_12_method_3_code 1 (Option.none : Option Jvm.ClassFile.FieldType) :: wAll) ({ frames := 0, cells := 0, slots := 0, locals := 0 } : Room) (va_Pc [.ref (ad 10 l0 0)] (zPre D ca ad lnC K.2 L aS vS F B sz)) (Q_Tokens_advance K D ca ad L r F9 B9 (zA L sz)) 0 0 (zA L sz) := by
  refine zMet (Qc := Q_Tokens_advance K D ca ad L r F9 B9) (lv := [(0, .ref (ad 10 l0 0))]) (by decide) (Nat.le_of_ble_eq_true rfl) rfl (fun A p e s m below meth c ls X hZ hS hl => ?_)
  obtain ⟨hx, hb, hr, hml, hown, hts, hlk, hK, hA, hL, hX⟩ := id X
  replace hf : (if 0 ≤ l0 ∧ l0 < K.2 10 then if 0 ≤ (F 10 l0 8) ∧ (F 10 l0 8) < 3001 then if r32 (B 10 l0 5 (F 10 l0 8)) then (if (B 10 l0 5 (F 10 l0 8)) = 2 then f_Tokens_advance_73 K l0 (zup3 (zup3 (zup3 (zup3 (zup3 F 10 l0 0 (B 10 l0 5 (F 10 l0 8))) 10 l0 1 (B 10 l0 6 (F 10 l0 8))) 10 l0 2 (B 10 l0 7 (F 10 l0 8))) 10 l0 3 (zdv (B 10 l0 7 (F 10 l0 8)) 8)) 10 l0 4 ((zrm (B 10 l0 7 (F 10 l0 8)) 8) - 2)) B else f_Tokens_advance_73 K l0 (zup3 (zup3 (zup3 F 10 l0 0 (B 10 l0 5 (F 10 l0 8))) 10 l0 1 (B 10 l0 6 (F 10 l0 8))) 10 l0 2 (B 10 l0 7 (F 10 l0 8))) B) else none else none else none) = some (r, F9, B9) := hf
  refine lv_aload_n hx hb (D_42 W_prog_12_method_3_code_0 0 rfl rfl) rfl (lv_at hl 0 rfl) ?_
  refine lv_aload_n hx hb (D_42 W_prog_12_method_3_code_0 1 rfl rfl) rfl (lv_at hl 0 rfl) ?_
  obtain ⟨g1, hf⟩ := gif hf
  refine zget (ci := 10) (C := RX10) (T := TX10) (v := .ref (ad 10 l0 (5 + 1))) (k := 5) hx hb hts inW_10 hown hK hZ g1.1 g1.2 rfl (by decide) k_1_82 rfl (D_180 W_prog_12_method_3_code_0 2 rfl rfl rfl) ?_
  refine lv_aload_n hx hb (D_42 W_prog_12_method_3_code_0 5 rfl rfl) rfl (lv_at hl 0 rfl) ?_
  refine zget (ci := 10) (C := RX10) (T := TX10) (v := .int (iI (F 10 l0 8))) (k := 8) hx hb hts inW_10 hown hK hZ g1.1 g1.2 rfl (by decide) k_1_85 rfl (D_180 W_prog_12_method_3_code_0 6 rfl rfl rfl) ?_
  obtain ⟨g2, hf⟩ := gif hf
  refine zald (ci := 10) (k := 5) hx hb hK rfl hZ g1.1 g1.2 rfl (Nat.le_of_ble_eq_true rfl) g2.1 g2.2 (D_46 W_prog_12_method_3_code_0 9 rfl rfl) ?_
  refine zput (ci := 10) (C := RX10) (T := TX10) (k := 0) (v := (B 10 l0 5 (F 10 l0 8))) (w := .int (iI (B 10 l0 5 (F 10 l0 8)))) hx hb hts inW_10 tyX10 tyX10_ok nmX10 hown hK hZ hS g1.1 g1.2 rfl (by decide) k_1_73 rfl (fun G h => congrArg (fun q => Value.int (iI q)) h) rfl rfl (zno (by decide)) (D_181 W_prog_12_method_3_code_0 10 rfl rfl rfl) (fun H3 locs3 hZ3 hS3 => ?_)
  refine lv_aload_n hx hb (D_42 W_prog_12_method_3_code_0 13 rfl rfl) rfl (lv_at hl 0 rfl) ?_
  refine lv_aload_n hx hb (D_42 W_prog_12_method_3_code_0 14 rfl rfl) rfl (lv_at hl 0 rfl) ?_
  refine zget (ci := 10) (C := RX10) (T := TX10) (v := .ref (ad 10 l0 (6 + 1))) (k := 6) hx hb hts inW_10 hown hK hZ3 g1.1 g1.2 rfl (by decide) k_1_83 rfl (D_180 W_prog_12_method_3_code_0 15 rfl rfl rfl) ?_
  refine lv_aload_n hx hb (D_42 W_prog_12_method_3_code_0 18 rfl rfl) rfl (lv_at hl 0 rfl) ?_
  refine zget (ci := 10) (C := RX10) (T := TX10) (v := .int (iI (F 10 l0 8))) (k := 8) hx hb hts inW_10 hown hK hZ3 g1.1 g1.2 rfl (by decide) k_1_85 (congrArg (fun q : Int => Value.int (iI q)) (show (zup3 F 10 l0 0 (B 10 l0 5 (F 10 l0 8))) 10 l0 8 = F 10 l0 8 by simp [zup3])) (D_180 W_prog_12_method_3_code_0 19 rfl rfl rfl) ?_
  refine zald (ci := 10) (k := 6) hx hb hK rfl hZ3 g1.1 g1.2 rfl (Nat.le_of_ble_eq_true rfl) g2.1 g2.2 (D_46 W_prog_12_method_3_code_0 22 rfl rfl) ?_
  refine zput (ci := 10) (C := RX10) (T := TX10) (k := 1) (v := (B 10 l0 6 (F 10 l0 8))) (w := .int (iI (B 10 l0 6 (F 10 l0 8)))) hx hb hts inW_10 tyX10 tyX10_ok nmX10 hown hK hZ3 hS3 g1.1 g1.2 rfl (by decide) k_1_74 rfl (fun G h => congrArg (fun q => Value.int (iI q)) h) rfl rfl (zno (by decide)) (D_181 W_prog_12_method_3_code_0 23 rfl rfl rfl) (fun H4 locs4 hZ4 hS4 => ?_)
  refine lv_aload_n hx hb (D_42 W_prog_12_method_3_code_0 26 rfl rfl) rfl (lv_at hl 0 rfl) ?_
  refine lv_aload_n hx hb (D_42 W_prog_12_method_3_code_0 27 rfl rfl) rfl (lv_at hl 0 rfl) ?_
  refine zget (ci := 10) (C := RX10) (T := TX10) (v := .ref (ad 10 l0 (7 + 1))) (k := 7) hx hb hts inW_10 hown hK hZ4 g1.1 g1.2 rfl (by decide) k_1_84 rfl (D_180 W_prog_12_method_3_code_0 28 rfl rfl rfl) ?_
  refine lv_aload_n hx hb (D_42 W_prog_12_method_3_code_0 31 rfl rfl) rfl (lv_at hl 0 rfl) ?_
  refine zget (ci := 10) (C := RX10) (T := TX10) (v := .int (iI (F 10 l0 8))) (k := 8) hx hb hts inW_10 hown hK hZ4 g1.1 g1.2 rfl (by decide) k_1_85 (congrArg (fun q : Int => Value.int (iI q)) (show (zup3 (zup3 F 10 l0 0 (B 10 l0 5 (F 10 l0 8))) 10 l0 1 (B 10 l0 6 (F 10 l0 8))) 10 l0 8 = F 10 l0 8 by simp [zup3])) (D_180 W_prog_12_method_3_code_32 0 rfl rfl rfl) ?_
  refine zlald (ci := 10) (k := 7) hx hb hK rfl hZ4 g1.1 g1.2 rfl (Nat.le_of_ble_eq_true rfl) g2.1 g2.2 (D_47 W_prog_12_method_3_code_32 3 rfl rfl) ?_
  refine zput (ci := 10) (C := RX10) (T := TX10) (k := 2) (v := (B 10 l0 7 (F 10 l0 8))) (w := .long (lI (B 10 l0 7 (F 10 l0 8)))) hx hb hts inW_10 tyX10 tyX10_ok nmX10 hown hK hZ4 hS4 g1.1 g1.2 rfl (by decide) k_1_76 rfl (fun G h => congrArg (fun q => Value.long (lI q)) h) rfl rfl (zno (by decide)) (D_181 W_prog_12_method_3_code_32 4 rfl rfl rfl) (fun H5 locs5 hZ5 hS5 => ?_)
  refine lv_aload_n hx hb (D_42 W_prog_12_method_3_code_32 7 rfl rfl) rfl (lv_at hl 0 rfl) ?_
  refine zget (ci := 10) (C := RX10) (T := TX10) (v := .int (iI (B 10 l0 5 (F 10 l0 8)))) (k := 0) hx hb hts inW_10 hown hK hZ5 g1.1 g1.2 rfl (by decide) k_1_73 (congrArg (fun q : Int => Value.int (iI q)) (show (zup3 (zup3 (zup3 F 10 l0 0 (B 10 l0 5 (F 10 l0 8))) 10 l0 1 (B 10 l0 6 (F 10 l0 8))) 10 l0 2 (B 10 l0 7 (F 10 l0 8))) 10 l0 0 = B 10 l0 5 (F 10 l0 8) by simp [zup3])) (D_180 W_prog_12_method_3_code_32 8 rfl rfl rfl) ?_
  refine lv_iconst (v := iI 2) hx hb (D_5 W_prog_12_method_3_code_32 11 rfl rfl) rfl ?_
  obtain ⟨g6, hf⟩ := gif hf
  refine zne (tgt := 73) hx hb g6 (by decide) (D_160 W_prog_12_method_3_code_32 12 rfl rfl rfl) (by decide) (fun h7 => ?_) (fun h7 => ?_)
  · replace hf := gneg hf h7
    exact b_Tokens_advance_73 X hf hZ5 hS5 (lv_sub hl [0] rfl)
  · replace hf := gpos hf h7
    refine lv_aload_n hx hb (D_42 W_prog_12_method_3_code_32 15 rfl rfl) rfl (lv_at hl 0 rfl) ?_
    refine lv_aload_n hx hb (D_42 W_prog_12_method_3_code_32 16 rfl rfl) rfl (lv_at hl 0 rfl) ?_
    refine zget (ci := 10) (C := RX10) (T := TX10) (v := .long (lI (B 10 l0 7 (F 10 l0 8)))) (k := 2) hx hb hts inW_10 hown hK hZ5 g1.1 g1.2 rfl (by decide) k_1_76 (congrArg (fun q : Int => Value.long (lI q)) (show (zup3 (zup3 (zup3 F 10 l0 0 (B 10 l0 5 (F 10 l0 8))) 10 l0 1 (B 10 l0 6 (F 10 l0 8))) 10 l0 2 (B 10 l0 7 (F 10 l0 8))) 10 l0 2 = B 10 l0 7 (F 10 l0 8) by simp [zup3])) (D_180 W_prog_12_method_3_code_32 17 rfl rfl rfl) ?_
    refine zl2iw hx hb (D_136 W_prog_12_method_3_code_32 20 rfl rfl) ?_
    refine lv_bipush (v := iI 8) hx hb (D_16 W_prog_12_method_3_code_32 21 rfl rfl rfl) (by decide) ?_
    refine zdv_r hx hb (by decide) (D_108 W_prog_12_method_3_code_32 23 rfl rfl) ?_
    refine zput (ci := 10) (C := RX10) (T := TX10) (k := 3) (v := (zdv (B 10 l0 7 (F 10 l0 8)) 8)) (w := .int (iI (zdv (B 10 l0 7 (F 10 l0 8)) 8))) hx hb hts inW_10 tyX10 tyX10_ok nmX10 hown hK hZ5 hS5 g1.1 g1.2 rfl (by decide) k_1_78 rfl (fun G h => congrArg (fun q => Value.int (iI q)) h) rfl rfl (zno (by decide)) (D_181 W_prog_12_method_3_code_32 24 rfl rfl rfl) (fun H8 locs8 hZ8 hS8 => ?_)
    refine lv_aload_n hx hb (D_42 W_prog_12_method_3_code_32 27 rfl rfl) rfl (lv_at hl 0 rfl) ?_
    refine lv_aload_n hx hb (D_42 W_prog_12_method_3_code_32 28 rfl rfl) rfl (lv_at hl 0 rfl) ?_
    refine zget (ci := 10) (C := RX10) (T := TX10) (v := .long (lI (B 10 l0 7 (F 10 l0 8)))) (k := 2) hx hb hts inW_10 hown hK hZ8 g1.1 g1.2 rfl (by decide) k_1_76 (congrArg (fun q : Int => Value.long (lI q)) (show (zup3 (zup3 (zup3 (zup3 F 10 l0 0 (B 10 l0 5 (F 10 l0 8))) 10 l0 1 (B 10 l0 6 (F 10 l0 8))) 10 l0 2 (B 10 l0 7 (F 10 l0 8))) 10 l0 3 (zdv (B 10 l0 7 (F 10 l0 8)) 8)) 10 l0 2 = B 10 l0 7 (F 10 l0 8) by simp [zup3])) (D_180 W_prog_12_method_3_code_32 29 rfl rfl rfl) ?_
    refine zl2iw hx hb (D_136 W_prog_12_method_3_code_64 0 rfl rfl) ?_
    refine lv_bipush (v := iI 8) hx hb (D_16 W_prog_12_method_3_code_64 1 rfl rfl rfl) (by decide) ?_
    refine zrm_r hx hb (by decide) (D_112 W_prog_12_method_3_code_64 3 rfl rfl) ?_
    refine lv_iconst (v := iI 2) hx hb (D_5 W_prog_12_method_3_code_64 4 rfl rfl) rfl ?_
    refine zsub hx hb (D_100 W_prog_12_method_3_code_64 5 rfl rfl) ?_
    refine zput (ci := 10) (C := RX10) (T := TX10) (k := 4) (v := ((zrm (B 10 l0 7 (F 10 l0 8)) 8) - 2)) (w := .int (iI ((zrm (B 10 l0 7 (F 10 l0 8)) 8) - 2))) hx hb hts inW_10 tyX10 tyX10_ok nmX10 hown hK hZ8 hS8 g1.1 g1.2 rfl (by decide) k_1_80 rfl (fun G h => congrArg (fun q => Value.int (iI q)) h) rfl rfl (zno (by decide)) (D_181 W_prog_12_method_3_code_64 6 rfl rfl rfl) (fun H9 locs9 hZ9 hS9 => ?_)
    exact b_Tokens_advance_73 X hf hZ9 hS9 (lv_sub hl [0] rfl)

abbrev Q_Tokens_isWord (K : zK) (D : va_G) (ca : Nat → ClassId) (ad : Nat → Int → Nat → Nat) (L : List Nat) (r : Int) (F : zF) (B : zB) (A : Nat → Prop) : Array Value → State → Outcome → State → Prop := va_Qi (S := Unit) (fun p _ => p = iI r) (fun _ => zPo D ca ad lnC K.2 L F B A) A
def f_Tokens_isWord_22 (K : zK) (s0 : Int) (F : zF) (B : zB) : zO := if (s0 = 0 ∨ s0 = 1) then some (s0, F, B) else none
set_option maxHeartbeats 4000000 in
set_option maxRecDepth 100000 in
theorem b_Tokens_isWord_22 {D : va_G} {ca : Nat → ClassId} {ad : Nat → Int → Nat → Nat} {L : List Nat} {aS vS : Nat → Nat} {A : Nat → Prop} {p : Program} {l : Launch} {e : Env} {s : State} {m : MethodId} {args : Array Value} {below : List Frame} {meth : Method} {c : Code} {K : zK} {r : Int} {F9 : zF} {B9 : zB} (X : zX D ca L aS vS A p s m args meth c prog_12_method_5_code 3 (Option.some Jvm.ClassFile.FieldType.boolean) "StaveHouse$Tokens") {s0 : Int} {F : zF} {B : zB} {H : Heap} {locs : List Loc} {ls : Array Slot} (hf : f_Tokens_isWord_22 K s0 F B = some (r, F9, B9)) (hZ : zH D ca ad lnC K.2 L F B A H) (hS : va_S A s.heap H locs) (hl : lv_has ls 3 []) : W p l e ({ frames := 0, cells := 0, slots := 0, locals := 0 } : Room) s m args below meth c H locs 0 0 (MQ below (Q_Tokens_isWord K D ca ad L r F9 B9 A) args s 0 0 A) (F0 m 22 ls [.int (iI s0)]) := by
  obtain ⟨hx, hb, hr, hml, hown, hts, hlk, hK, hA, hL, hX⟩ := id X
  replace hf : (if (s0 = 0 ∨ s0 = 1) then some (s0, F, B) else none) = some (r, F9, B9) := hf
  obtain ⟨g7, hf⟩ := gif hf
  cases hf
  exact W.zret hx hb hr (zbool g7) (fun t ht hW => ⟨⟨_, (), rfl, rfl, by rw [ht]; exact hZ, va_K.moved hW.alike hK⟩, hS.F ht⟩) hS.2.2 (D_172 W_prog_12_method_5_code_0 22 rfl rfl) hlk

def f_Tokens_isWord_21 (K : zK)  (F : zF) (B : zB) : zO := f_Tokens_isWord_22 K 0 F B
set_option maxHeartbeats 4000000 in
set_option maxRecDepth 100000 in
theorem b_Tokens_isWord_21 {D : va_G} {ca : Nat → ClassId} {ad : Nat → Int → Nat → Nat} {L : List Nat} {aS vS : Nat → Nat} {A : Nat → Prop} {p : Program} {l : Launch} {e : Env} {s : State} {m : MethodId} {args : Array Value} {below : List Frame} {meth : Method} {c : Code} {K : zK} {r : Int} {F9 : zF} {B9 : zB} (X : zX D ca L aS vS A p s m args meth c prog_12_method_5_code 3 (Option.some Jvm.ClassFile.FieldType.boolean) "StaveHouse$Tokens")  {F : zF} {B : zB} {H : Heap} {locs : List Loc} {ls : Array Slot} (hf : f_Tokens_isWord_21 K  F B = some (r, F9, B9)) (hZ : zH D ca ad lnC K.2 L F B A H) (hS : va_S A s.heap H locs) (hl : lv_has ls 3 []) : W p l e ({ frames := 0, cells := 0, slots := 0, locals := 0 } : Room) s m args below meth c H locs 0 0 (MQ below (Q_Tokens_isWord K D ca ad L r F9 B9 A) args s 0 0 A) (F0 m 21 ls []) := by
  obtain ⟨hx, hb, hr, hml, hown, hts, hlk, hK, hA, hL, hX⟩ := id X
  replace hf : (f_Tokens_isWord_22 K 0 F B) = some (r, F9, B9) := hf
  refine lv_iconst (v := iI 0) hx hb (D_3 W_prog_12_method_5_code_0 21 rfl rfl) rfl ?_
  exact b_Tokens_isWord_22 X hf hZ hS (lv_sub hl [] rfl)

def f_Tokens_isWord (K : zK) (l0 : Int) (l1 : Int) (F : zF) (B : zB) : zO := if 0 ≤ l0 ∧ l0 < K.2 10 then if r32 (F 10 l0 0) then (if (F 10 l0 0) = 4 then if r64 (F 10 l0 2) then if r64 l1 then (if (zcmp (F 10 l0 2) l1) = 0 then f_Tokens_isWord_22 K 1 F B else f_Tokens_isWord_21 K F B) else none else none else f_Tokens_isWord_21 K F B) else none else none
set_option maxHeartbeats 4000000 in
set_option maxRecDepth 100000 in
theorem c_Tokens_isWord {l : Launch} {D : va_G} {ca : Nat → ClassId} {ad : Nat → Int → Nat → Nat} {L : List Nat} {aS vS : Nat → Nat} {sz : Nat} {K : zK}  {l0 : Int} {l1 : Int} {F F9 : zF} {B B9 : zB} {r : Int} (hf : f_Tokens_isWord K l0 l1 F B = some (r, F9, B9)) : Met l ({ cls := "StaveHouse$Tokens", name := "isWord", desc := "(J)Z" } : Jvm.MethodName) (Cond.code ({ cls := "StaveHouse$Tokens", name := "isWord", desc := "(J)Z" } : Jvm.MethodName) prog_12_method_5_code 3 (Option.some Jvm.ClassFile.FieldType.boolean) :: wAll) ({ frames := 0, cells := 0, slots := 0, locals := 0 } : Room) (va_Pc [.ref (ad 10 l0 0), .long (lI l1)] (zPre D ca ad lnC K.2 L aS vS F B sz)) (Q_Tokens_isWord K D ca ad L r F9 B9 (zA L sz)) 0 0 (zA L sz) := by
  refine zMet (Qc := Q_Tokens_isWord K D ca ad L r F9 B9) (lv := [(0, .ref (ad 10 l0 0)), (1, .long (lI l1))]) (by decide) (Nat.le_of_ble_eq_true rfl) rfl (fun A p e s m below meth c ls X hZ hS hl => ?_)
  obtain ⟨hx, hb, hr, hml, hown, hts, hlk, hK, hA, hL, hX⟩ := id X
  replace hf : (if 0 ≤ l0 ∧ l0 < K.2 10 then if r32 (F 10 l0 0) then (if (F 10 l0 0) = 4 then if r64 (F 10 l0 2) then if r64 l1 then (if (zcmp (F 10 l0 2) l1) = 0 then f_Tokens_isWord_22 K 1 F B else f_Tokens_isWord_21 K F B) else none else none else f_Tokens_isWord_21 K F B) else none else none) = some (r, F9, B9) := hf
  refine lv_aload_n hx hb (D_42 W_prog_12_method_5_code_0 0 rfl rfl) rfl (lv_at hl 0 rfl) ?_
  obtain ⟨g1, hf⟩ := gif hf
  refine zget (ci := 10) (C := RX10) (T := TX10) (v := .int (iI (F 10 l0 0))) (k := 0) hx hb hts inW_10 hown hK hZ g1.1 g1.2 rfl (by decide) k_1_73 rfl (D_180 W_prog_12_method_5_code_0 1 rfl rfl rfl) ?_
  refine lv_iconst (v := iI 4) hx hb (D_7 W_prog_12_method_5_code_0 4 rfl rfl) rfl ?_
  obtain ⟨g2, hf⟩ := gif hf
  refine zne (tgt := 21) hx hb g2 (by decide) (D_160 W_prog_12_method_5_code_0 5 rfl rfl rfl) (by decide) (fun h3 => ?_) (fun h3 => ?_)
  · replace hf := gneg hf h3
    exact b_Tokens_isWord_21 X hf hZ hS (lv_sub hl [] rfl)
  · replace hf := gpos hf h3
    refine lv_aload_n hx hb (D_42 W_prog_12_method_5_code_0 8 rfl rfl) rfl (lv_at hl 0 rfl) ?_
    refine zget (ci := 10) (C := RX10) (T := TX10) (v := .long (lI (F 10 l0 2))) (k := 2) hx hb hts inW_10 hown hK hZ g1.1 g1.2 rfl (by decide) k_1_76 rfl (D_180 W_prog_12_method_5_code_0 9 rfl rfl rfl) ?_
    refine lv_lload_n hx hb (D_31 W_prog_12_method_5_code_0 12 rfl rfl) rfl (lv_at hl 1 rfl) ?_
    obtain ⟨g4, hf⟩ := gif hf
    obtain ⟨g5, hf⟩ := gif hf
    refine zcmp_r hx hb g4 g5 (D_148 W_prog_12_method_5_code_0 13 rfl rfl) ?_
    refine z0ne (tgt := 21) hx hb zcmp_32 (D_154 W_prog_12_method_5_code_0 14 rfl rfl rfl) (by decide) (fun h6 => ?_) (fun h6 => ?_)
    · replace hf := gneg hf h6
      exact b_Tokens_isWord_21 X hf hZ hS (lv_sub hl [] rfl)
    · replace hf := gpos hf h6
      refine lv_iconst (v := iI 1) hx hb (D_4 W_prog_12_method_5_code_0 17 rfl rfl) rfl ?_
      refine lv_goto (tgt := 22) hx hb (D_167 W_prog_12_method_5_code_0 18 rfl rfl rfl) (by decide) ?_
      exact b_Tokens_isWord_22 X hf hZ hS (lv_sub hl [] rfl)

abbrev Q_Parser_headSort (K : zK) (D : va_G) (ca : Nat → ClassId) (ad : Nat → Int → Nat → Nat) (L : List Nat) (r : Int) (F : zF) (B : zB) (A : Nat → Prop) : Array Value → State → Outcome → State → Prop := va_Qi (S := Unit) (fun p _ => p = iI r) (fun _ => zPo D ca ad lnC K.2 L F B A) A
def f_Parser_headSort_48 (K : zK) (s0 : Int) (F : zF) (B : zB) : zO := some (s0, F, B)
set_option maxHeartbeats 4000000 in
set_option maxRecDepth 100000 in
theorem b_Parser_headSort_48 {D : va_G} {ca : Nat → ClassId} {ad : Nat → Int → Nat → Nat} {L : List Nat} {aS vS : Nat → Nat} {A : Nat → Prop} {p : Program} {l : Launch} {e : Env} {s : State} {m : MethodId} {args : Array Value} {below : List Frame} {meth : Method} {c : Code} {K : zK} {r : Int} {F9 : zF} {B9 : zB} (X : zX D ca L aS vS A p s m args meth c prog_5_method_5_code 1 (Option.some Jvm.ClassFile.FieldType.int) "StaveHouse$Parser") {s0 : Int} {F : zF} {B : zB} {H : Heap} {locs : List Loc} {ls : Array Slot} (hf : f_Parser_headSort_48 K s0 F B = some (r, F9, B9)) (hZ : zH D ca ad lnC K.2 L F B A H) (hS : va_S A s.heap H locs) (hl : lv_has ls 1 []) : W p l e ({ frames := 1, cells := 0, slots := 0, locals := 22 } : Room) s m args below meth c H locs 0 0 (MQ below (Q_Parser_headSort K D ca ad L r F9 B9 A) args s 0 0 A) (F0 m 48 ls [.int (iI s0)]) := by
  obtain ⟨hx, hb, hr, hml, hown, hts, hlk, hK, hA, hL, hX⟩ := id X
  replace hf : (some (s0, F, B)) = some (r, F9, B9) := hf
  cases hf
  exact W.iret hx hb hr (fun t ht hW => ⟨⟨_, (), rfl, rfl, by rw [ht]; exact hZ, va_K.moved hW.alike hK⟩, hS.F ht⟩) hS.2.2 (D_172 W_prog_5_method_5_code_32 16 rfl rfl) hlk

def f_Parser_headSort (K : zK) (l0 : Int) (F : zF) (B : zB) : zO := if 0 ≤ l0 ∧ l0 < K.2 3 then if 0 ≤ (F 3 l0 11) ∧ (F 3 l0 11) < K.2 10 then zbind (f_Tokens_isWord K (F 3 l0 11) 7038329 F B) (fun r3 F3 B3 => if r32 r3 then (if r3 = 0 then if 0 ≤ (F3 3 l0 11) ∧ (F3 3 l0 11) < K.2 10 then zbind (f_Tokens_isWord K (F3 3 l0 11) 1953066341 F3 B3) (fun r7 F7 B7 => if r32 r7 then (if r7 = 0 then if 0 ≤ (F7 3 l0 11) ∧ (F7 3 l0 11) < K.2 10 then zbind (f_Tokens_isWord K (F7 3 l0 11) 499917877359 F7 B7) (fun r11 F11 B11 => if r32 r11 then (if r11 = 0 then f_Parser_headSort_48 K 0 F11 B11 else f_Parser_headSort_48 K 4 F11 B11) else none) else none else some (2, F7, B7)) else none) else none else some (1, F3, B3)) else none) else none else none
set_option maxHeartbeats 4000000 in
set_option maxRecDepth 100000 in
theorem c_Parser_headSort {l : Launch} {D : va_G} {ca : Nat → ClassId} {ad : Nat → Int → Nat → Nat} {L : List Nat} {aS vS : Nat → Nat} {sz : Nat} {K : zK}  {l0 : Int} {F F9 : zF} {B B9 : zB} {r : Int} (hf : f_Parser_headSort K l0 F B = some (r, F9, B9)) : Met l ({ cls := "StaveHouse$Parser", name := "headSort", desc := "()I" } : Jvm.MethodName) (Cond.code ({ cls := "StaveHouse$Parser", name := "headSort", desc := "()I" } : Jvm.MethodName) prog_5_method_5_code 1 (Option.some Jvm.ClassFile.FieldType.int) :: wAll) ({ frames := 1, cells := 0, slots := 0, locals := 22 } : Room) (va_Pc [.ref (ad 3 l0 0)] (zPre D ca ad lnC K.2 L aS vS F B sz)) (Q_Parser_headSort K D ca ad L r F9 B9 (zA L sz)) 0 0 (zA L sz) := by
  refine zMet (Qc := Q_Parser_headSort K D ca ad L r F9 B9) (lv := [(0, .ref (ad 3 l0 0))]) (by decide) (Nat.le_of_ble_eq_true rfl) rfl (fun A p e s m below meth c ls X hZ hS hl => ?_)
  obtain ⟨hx, hb, hr, hml, hown, hts, hlk, hK, hA, hL, hX⟩ := id X
  replace hf : (if 0 ≤ l0 ∧ l0 < K.2 3 then if 0 ≤ (F 3 l0 11) ∧ (F 3 l0 11) < K.2 10 then zbind (f_Tokens_isWord K (F 3 l0 11) 7038329 F B) (fun r3 F3 B3 => if r32 r3 then (if r3 = 0 then if 0 ≤ (F3 3 l0 11) ∧ (F3 3 l0 11) < K.2 10 then zbind (f_Tokens_isWord K (F3 3 l0 11) 1953066341 F3 B3) (fun r7 F7 B7 => if r32 r7 then (if r7 = 0 then if 0 ≤ (F7 3 l0 11) ∧ (F7 3 l0 11) < K.2 10 then zbind (f_Tokens_isWord K (F7 3 l0 11) 499917877359 F7 B7) (fun r11 F11 B11 => if r32 r11 then (if r11 = 0 then f_Parser_headSort_48 K 0 F11 B11 else f_Parser_headSort_48 K 4 F11 B11) else none) else none else some (2, F7, B7)) else none) else none else some (1, F3, B3)) else none) else none else none) = some (r, F9, B9) := hf
  refine lv_aload_n hx hb (D_42 W_prog_5_method_5_code_0 0 rfl rfl) rfl (lv_at hl 0 rfl) ?_
  obtain ⟨g1, hf⟩ := gif hf
  refine zget (ci := 3) (C := RX3) (T := TX3) (v := va_rf (zrf ad 10 (F 3 l0 11))) (k := 11) hx hb hts inW_3 hown hK hZ g1.1 g1.2 rfl (by decide) k_1_128 rfl (D_180 W_prog_5_method_5_code_0 1 rfl rfl rfl) ?_
  refine lv_ldc2 hx hb hown (hts _ k_3_168) (D_20 W_prog_5_method_5_code_0 4 rfl rfl rfl) ?_
  refine W.eq (g2 := F0 m 7 ls [.long (lI 7038329), va_rf (zrf ad 10 (F 3 l0 11))]) rfl ?_
  obtain ⟨g2, hf⟩ := gif hf
  refine W.eq (g2 := F0 m 7 ls [.long (lI 7038329), .ref (ad 10 (F 3 l0 11) 0)]) (by rw [zrf_pos (ad := ad) (t := 10) g2.1]; try rfl) ?_
  obtain ⟨r3, F3, B3, hc3, hf⟩ := gbind hf
  refine va_calli (va_runV (As := [.long (lI 7038329)]) (rest := []) ⟨hx, hb, hml, hown, hts⟩ (c_Tokens_isWord (l := l) hc3) (cwV 1 hts (gdV k_3_160 k_3_161 k_3_162 k_1_5 k_3_163) rfl rfl rfl (by decide +kernel) ⟨Nat.le_of_ble_eq_true rfl, Nat.le_of_ble_eq_true rfl⟩) (zPV X hZ hS (ci := 10) g2.1 g2.2 (r := (RX10, TX10, 9)) rfl [.long (lI 7038329)]) rfl rfl hl.1 rfl (lv_room (Nat.le_of_ble_eq_true rfl)) (D_182 W_prog_5_method_5_code_0 7 rfl rfl rfl) ⟨Nat.le_of_ble_eq_true rfl, Nat.le_of_ble_eq_true rfl⟩) hS (fun q _ h => zAin X hS q h) (zAin X hS) (fun p3 u3 t3 H3 locs3 ht3 hv3 hw3 hB3 hz3 hk3 hS3 => ?_)
  have hZ3 := zBack X ht3 hB3
  subst hw3
  obtain ⟨g4, hf⟩ := gif hf
  refine z0eq (tgt := 15) hx hb g4 (D_153 W_prog_5_method_5_code_0 10 rfl rfl rfl) (by decide) (fun h5 => ?_) (fun h5 => ?_)
  · replace hf := gpos hf h5
    refine lv_aload_n hx hb (D_42 W_prog_5_method_5_code_0 15 rfl rfl) rfl (lv_at hl 0 rfl) ?_
    refine zget (ci := 3) (C := RX3) (T := TX3) (v := va_rf (zrf ad 10 (F3 3 l0 11))) (k := 11) hx hb hts inW_3 hown hK hZ3 g1.1 g1.2 rfl (by decide) k_1_128 rfl (D_180 W_prog_5_method_5_code_0 16 rfl rfl rfl) ?_
    refine lv_ldc2 hx hb hown (hts _ k_3_169) (D_20 W_prog_5_method_5_code_0 19 rfl rfl rfl) ?_
    refine W.eq (g2 := F0 m 22 ls [.long (lI 1953066341), va_rf (zrf ad 10 (F3 3 l0 11))]) rfl ?_
    obtain ⟨g6, hf⟩ := gif hf
    refine W.eq (g2 := F0 m 22 ls [.long (lI 1953066341), .ref (ad 10 (F3 3 l0 11) 0)]) (by rw [zrf_pos (ad := ad) (t := 10) g6.1]; try rfl) ?_
    obtain ⟨r7, F7, B7, hc7, hf⟩ := gbind hf
    refine va_calli (va_runV (As := [.long (lI 1953066341)]) (rest := []) ⟨hx, hb, hml, hown, hts⟩ (c_Tokens_isWord (l := l) hc7) (cwV 1 hts (gdV k_3_160 k_3_161 k_3_162 k_1_5 k_3_163) rfl rfl rfl (by decide +kernel) ⟨Nat.le_of_ble_eq_true rfl, Nat.le_of_ble_eq_true rfl⟩) (zPV X hZ3 hS3 (ci := 10) g6.1 g6.2 (r := (RX10, TX10, 9)) rfl [.long (lI 1953066341)]) rfl rfl hl.1 rfl (lv_room (Nat.le_of_ble_eq_true rfl)) (D_182 W_prog_5_method_5_code_0 22 rfl rfl rfl) ⟨Nat.le_of_ble_eq_true rfl, Nat.le_of_ble_eq_true rfl⟩) hS3 (fun q _ h => zAin X hS3 q h) (zAin X hS3) (fun p7 u7 t7 H7 locs7 ht7 hv7 hw7 hB7 hz7 hk7 hS7 => ?_)
    have hZ7 := zBack X ht7 hB7
    subst hw7
    obtain ⟨g8, hf⟩ := gif hf
    refine z0eq (tgt := 30) hx hb g8 (D_153 W_prog_5_method_5_code_0 25 rfl rfl rfl) (by decide) (fun h9 => ?_) (fun h9 => ?_)
    · replace hf := gpos hf h9
      refine lv_aload_n hx hb (D_42 W_prog_5_method_5_code_0 30 rfl rfl) rfl (lv_at hl 0 rfl) ?_
      refine zget (ci := 3) (C := RX3) (T := TX3) (v := va_rf (zrf ad 10 (F7 3 l0 11))) (k := 11) hx hb hts inW_3 hown hK hZ7 g1.1 g1.2 rfl (by decide) k_1_128 rfl (D_180 W_prog_5_method_5_code_0 31 rfl rfl rfl) ?_
      refine lv_ldc2 hx hb hown (hts _ k_3_170) (D_20 W_prog_5_method_5_code_32 2 rfl rfl rfl) ?_
      refine W.eq (g2 := F0 m 37 ls [.long (lI 499917877359), va_rf (zrf ad 10 (F7 3 l0 11))]) rfl ?_
      obtain ⟨g10, hf⟩ := gif hf
      refine W.eq (g2 := F0 m 37 ls [.long (lI 499917877359), .ref (ad 10 (F7 3 l0 11) 0)]) (by rw [zrf_pos (ad := ad) (t := 10) g10.1]; try rfl) ?_
      obtain ⟨r11, F11, B11, hc11, hf⟩ := gbind hf
      refine va_calli (va_runV (As := [.long (lI 499917877359)]) (rest := []) ⟨hx, hb, hml, hown, hts⟩ (c_Tokens_isWord (l := l) hc11) (cwV 1 hts (gdV k_3_160 k_3_161 k_3_162 k_1_5 k_3_163) rfl rfl rfl (by decide +kernel) ⟨Nat.le_of_ble_eq_true rfl, Nat.le_of_ble_eq_true rfl⟩) (zPV X hZ7 hS7 (ci := 10) g10.1 g10.2 (r := (RX10, TX10, 9)) rfl [.long (lI 499917877359)]) rfl rfl hl.1 rfl (lv_room (Nat.le_of_ble_eq_true rfl)) (D_182 W_prog_5_method_5_code_32 5 rfl rfl rfl) ⟨Nat.le_of_ble_eq_true rfl, Nat.le_of_ble_eq_true rfl⟩) hS7 (fun q _ h => zAin X hS7 q h) (zAin X hS7) (fun p11 u11 t11 H11 locs11 ht11 hv11 hw11 hB11 hz11 hk11 hS11 => ?_)
      have hZ11 := zBack X ht11 hB11
      subst hw11
      obtain ⟨g12, hf⟩ := gif hf
      refine z0eq (tgt := 47) hx hb g12 (D_153 W_prog_5_method_5_code_32 8 rfl rfl rfl) (by decide) (fun h13 => ?_) (fun h13 => ?_)
      · replace hf := gpos hf h13
        refine lv_iconst (v := iI 0) hx hb (D_3 W_prog_5_method_5_code_32 15 rfl rfl) rfl ?_
        exact b_Parser_headSort_48 X hf hZ11 hS11 (lv_sub hl [] rfl)
      · replace hf := gneg hf h13
        refine lv_iconst (v := iI 4) hx hb (D_7 W_prog_5_method_5_code_32 11 rfl rfl) rfl ?_
        refine lv_goto (tgt := 48) hx hb (D_167 W_prog_5_method_5_code_32 12 rfl rfl rfl) (by decide) ?_
        exact b_Parser_headSort_48 X hf hZ11 hS11 (lv_sub hl [] rfl)
    · replace hf := gneg hf h9
      refine lv_iconst (v := iI 2) hx hb (D_5 W_prog_5_method_5_code_0 28 rfl rfl) rfl ?_
      cases hf
      exact W.iret hx hb hr (fun t ht hW => ⟨⟨_, (), rfl, rfl, by rw [ht]; exact hZ7, va_K.moved hW.alike hK⟩, hS7.F ht⟩) hS7.2.2 (D_172 W_prog_5_method_5_code_0 29 rfl rfl) hlk
  · replace hf := gneg hf h5
    refine lv_iconst (v := iI 1) hx hb (D_4 W_prog_5_method_5_code_0 13 rfl rfl) rfl ?_
    cases hf
    exact W.iret hx hb hr (fun t ht hW => ⟨⟨_, (), rfl, rfl, by rw [ht]; exact hZ3, va_K.moved hW.alike hK⟩, hS3.F ht⟩) hS3.2.2 (D_172 W_prog_5_method_5_code_0 14 rfl rfl) hlk

abbrev Q_Parser_newItem (K : zK) (D : va_G) (ca : Nat → ClassId) (ad : Nat → Int → Nat → Nat) (L : List Nat) (r : Int) (F : zF) (B : zB) (A : Nat → Prop) : Array Value → State → Outcome → State → Prop := va_Qi (S := Unit) (fun p _ => p = iI r) (fun _ => zPo D ca ad lnC K.2 L F B A) A
def f_Parser_newItem (K : zK) (l0 : Int) (l1 : Int) (F : zF) (B : zB) : zO := if 0 ≤ l0 ∧ l0 < K.2 3 then if r32 (F 3 l0 14) then if 0 ≤ (zmin (F 3 l0 14) 2999) ∧ (zmin (F 3 l0 14) 2999) < 3000 then if 0 ≤ (F 3 l0 11) ∧ (F 3 l0 11) < K.2 10 then some (zmin (F 3 l0 14) 2999, (zup3 F 3 l0 14 ((zmin (F 3 l0 14) 2999) + 1)), (zup4 (zup4 (zup4 (zup4 (zup4 (zup4 (zup4 (zup4 B 3 l0 0 (zmin (F 3 l0 14) 2999) l1) 3 l0 1 (zmin (F 3 l0 14) 2999) (F 10 (F 3 l0 11) 1)) 3 l0 2 (zmin (F 3 l0 14) 2999) 0) 3 l0 3 (zmin (F 3 l0 14) 2999) (-1)) 3 l0 4 (zmin (F 3 l0 14) 2999) (-1)) 3 l0 5 (zmin (F 3 l0 14) 2999) (-1)) 3 l0 6 (zmin (F 3 l0 14) 2999) 0) 3 l0 7 (zmin (F 3 l0 14) 2999) 0)) else none else none else none else none
set_option maxHeartbeats 4000000 in
set_option maxRecDepth 100000 in
theorem c_Parser_newItem {l : Launch} {D : va_G} {ca : Nat → ClassId} {ad : Nat → Int → Nat → Nat} {L : List Nat} {aS vS : Nat → Nat} {sz : Nat} {K : zK}  {l0 : Int} {l1 : Int} {F F9 : zF} {B B9 : zB} {r : Int} (hf : f_Parser_newItem K l0 l1 F B = some (r, F9, B9)) : Met l ({ cls := "StaveHouse$Parser", name := "newItem", desc := "(I)I" } : Jvm.MethodName) (Cond.code ({ cls := "StaveHouse$Parser", name := "newItem", desc := "(I)I" } : Jvm.MethodName) prog_5_method_16_code 3 (Option.some Jvm.ClassFile.FieldType.int) :: wAll) ({ frames := 1, cells := 0, slots := 0, locals := 13 } : Room) (va_Pc [.ref (ad 3 l0 0), .int (iI l1)] (zPre D ca ad lnC K.2 L aS vS F B sz)) (Q_Parser_newItem K D ca ad L r F9 B9 (zA L sz)) 0 0 (zA L sz) := by
  refine zMet (Qc := Q_Parser_newItem K D ca ad L r F9 B9) (lv := [(0, .ref (ad 3 l0 0)), (1, .int (iI l1))]) (by decide) (Nat.le_of_ble_eq_true rfl) rfl (fun A p e s m below meth c ls X hZ hS hl => ?_)
  obtain ⟨hx, hb, hr, hml, hown, hts, hlk, hK, hA, hL, hX⟩ := id X
  replace hf : (if 0 ≤ l0 ∧ l0 < K.2 3 then if r32 (F 3 l0 14) then if 0 ≤ (zmin (F 3 l0 14) 2999) ∧ (zmin (F 3 l0 14) 2999) < 3000 then if 0 ≤ (F 3 l0 11) ∧ (F 3 l0 11) < K.2 10 then some (zmin (F 3 l0 14) 2999, (zup3 F 3 l0 14 ((zmin (F 3 l0 14) 2999) + 1)), (zup4 (zup4 (zup4 (zup4 (zup4 (zup4 (zup4 (zup4 B 3 l0 0 (zmin (F 3 l0 14) 2999) l1) 3 l0 1 (zmin (F 3 l0 14) 2999) (F 10 (F 3 l0 11) 1)) 3 l0 2 (zmin (F 3 l0 14) 2999) 0) 3 l0 3 (zmin (F 3 l0 14) 2999) (-1)) 3 l0 4 (zmin (F 3 l0 14) 2999) (-1)) 3 l0 5 (zmin (F 3 l0 14) 2999) (-1)) 3 l0 6 (zmin (F 3 l0 14) 2999) 0) 3 l0 7 (zmin (F 3 l0 14) 2999) 0)) else none else none else none else none) = some (r, F9, B9) := hf
  refine lv_aload_n hx hb (D_42 W_prog_5_method_16_code_0 0 rfl rfl) rfl (lv_at hl 0 rfl) ?_
  obtain ⟨g1, hf⟩ := gif hf
  refine zget (ci := 3) (C := RX3) (T := TX3) (v := .int (iI (F 3 l0 14))) (k := 14) hx hb hts inW_3 hown hK hZ g1.1 g1.2 rfl (by decide) k_1_131 rfl (D_180 W_prog_5_method_16_code_0 1 rfl rfl rfl) ?_
  refine lv_sipush (v := iI 2999) hx hb (D_17 W_prog_5_method_16_code_0 4 rfl rfl rfl) (by decide) ?_
  obtain ⟨g2, hf⟩ := gif hf
  refine va_mmin hx hb (by rw [hml]; exact hl.1.symm) hown (hts _ k_3_179) (hts _ k_3_97) (hts _ k_1_3) (hts _ k_3_98) (Nat.le_of_ble_eq_true rfl) (Nat.le_of_ble_eq_true rfl) (Nat.le_of_ble_eq_true rfl) (Nat.le_of_ble_eq_true rfl) (D_184 W_prog_5_method_16_code_0 7 rfl rfl rfl) ?_
  rw [zmin_e g2 (by decide)]
  refine lv_istore_n (lv' := [(2, .int (iI (zmin (F 3 l0 14) 2999))), (0, .ref (ad 3 l0 0)), (1, .int (iI l1))]) hx hb (D_61 W_prog_5_method_16_code_0 10 rfl rfl) rfl hl (by decide) rfl (fun ls hl => ?_)
  refine lv_aload_n hx hb (D_42 W_prog_5_method_16_code_0 11 rfl rfl) rfl (lv_at hl 1 rfl) ?_
  refine lv_iload_n hx hb (D_28 W_prog_5_method_16_code_0 12 rfl rfl) rfl (lv_at hl 0 rfl) ?_
  refine lv_iconst (v := iI 1) hx hb (D_4 W_prog_5_method_16_code_0 13 rfl rfl) rfl ?_
  refine zadd hx hb (D_96 W_prog_5_method_16_code_0 14 rfl rfl) ?_
  refine zput (ci := 3) (C := RX3) (T := TX3) (k := 14) (v := ((zmin (F 3 l0 14) 2999) + 1)) (w := .int (iI ((zmin (F 3 l0 14) 2999) + 1))) hx hb hts inW_3 tyX3 tyX3_ok nmX3 hown hK hZ hS g1.1 g1.2 rfl (by decide) k_1_131 rfl (fun G h => congrArg (fun q => Value.int (iI q)) h) rfl rfl (zno (by decide)) (D_181 W_prog_5_method_16_code_0 15 rfl rfl rfl) (fun H3 locs3 hZ3 hS3 => ?_)
  refine lv_aload_n hx hb (D_42 W_prog_5_method_16_code_0 18 rfl rfl) rfl (lv_at hl 1 rfl) ?_
  refine zget (ci := 3) (C := RX3) (T := TX3) (v := .ref (ad 3 l0 (0 + 1))) (k := 0) hx hb hts inW_3 hown hK hZ3 g1.1 g1.2 rfl (by decide) k_1_106 rfl (D_180 W_prog_5_method_16_code_0 19 rfl rfl rfl) ?_
  refine lv_iload_n hx hb (D_28 W_prog_5_method_16_code_0 22 rfl rfl) rfl (lv_at hl 0 rfl) ?_
  refine lv_iload_n hx hb (D_27 W_prog_5_method_16_code_0 23 rfl rfl) rfl (lv_at hl 2 rfl) ?_
  obtain ⟨g4, hf⟩ := gif hf
  refine zast (ci := 3) (k := 0) hx hb hK rfl hZ3 hS3 g1.1 g1.2 rfl (Nat.le_of_ble_eq_true rfl) g4.1 g4.2 (D_79 W_prog_5_method_16_code_0 24 rfl rfl) (fun H5 locs5 hZ5 hS5 => ?_)
  refine lv_aload_n hx hb (D_42 W_prog_5_method_16_code_0 25 rfl rfl) rfl (lv_at hl 1 rfl) ?_
  refine zget (ci := 3) (C := RX3) (T := TX3) (v := .ref (ad 3 l0 (1 + 1))) (k := 1) hx hb hts inW_3 hown hK hZ5 g1.1 g1.2 rfl (by decide) k_1_108 rfl (D_180 W_prog_5_method_16_code_0 26 rfl rfl rfl) ?_
  refine lv_iload_n hx hb (D_28 W_prog_5_method_16_code_0 29 rfl rfl) rfl (lv_at hl 0 rfl) ?_
  refine lv_aload_n hx hb (D_42 W_prog_5_method_16_code_0 30 rfl rfl) rfl (lv_at hl 1 rfl) ?_
  refine zget (ci := 3) (C := RX3) (T := TX3) (v := va_rf (zrf ad 10 (F 3 l0 11))) (k := 11) hx hb hts inW_3 hown hK hZ5 g1.1 g1.2 rfl (by decide) k_1_128 (congrArg (fun q : Int => va_rf (zrf ad 10 q)) (show (zup3 F 3 l0 14 ((zmin (F 3 l0 14) 2999) + 1)) 3 l0 11 = F 3 l0 11 by simp [zup3])) (D_180 W_prog_5_method_16_code_0 31 rfl rfl rfl) ?_
  obtain ⟨g6, hf⟩ := gif hf
  refine zunrf g6.1 ?_
  refine zget (ci := 10) (C := RX10) (T := TX10) (v := .int (iI (F 10 (F 3 l0 11) 1))) (k := 1) hx hb hts inW_10 hown hK hZ5 g6.1 g6.2 rfl (by decide) k_1_75 (congrArg (fun q : Int => Value.int (iI q)) (show (zup3 F 3 l0 14 ((zmin (F 3 l0 14) 2999) + 1)) 10 (F 3 l0 11) 1 = F 10 (F 3 l0 11) 1 by simp [zup3])) (D_180 W_prog_5_method_16_code_32 2 rfl rfl rfl) ?_
  refine zast (ci := 3) (k := 1) hx hb hK rfl hZ5 hS5 g1.1 g1.2 rfl (Nat.le_of_ble_eq_true rfl) g4.1 g4.2 (D_79 W_prog_5_method_16_code_32 5 rfl rfl) (fun H7 locs7 hZ7 hS7 => ?_)
  refine lv_aload_n hx hb (D_42 W_prog_5_method_16_code_32 6 rfl rfl) rfl (lv_at hl 1 rfl) ?_
  refine zget (ci := 3) (C := RX3) (T := TX3) (v := .ref (ad 3 l0 (2 + 1))) (k := 2) hx hb hts inW_3 hown hK hZ7 g1.1 g1.2 rfl (by decide) k_1_110 rfl (D_180 W_prog_5_method_16_code_32 7 rfl rfl rfl) ?_
  refine lv_iload_n hx hb (D_28 W_prog_5_method_16_code_32 10 rfl rfl) rfl (lv_at hl 0 rfl) ?_
  refine lv_iconst (v := iI 0) hx hb (D_3 W_prog_5_method_16_code_32 11 rfl rfl) rfl ?_
  refine zast (ci := 3) (k := 2) hx hb hK rfl hZ7 hS7 g1.1 g1.2 rfl (Nat.le_of_ble_eq_true rfl) g4.1 g4.2 (D_79 W_prog_5_method_16_code_32 12 rfl rfl) (fun H8 locs8 hZ8 hS8 => ?_)
  refine lv_aload_n hx hb (D_42 W_prog_5_method_16_code_32 13 rfl rfl) rfl (lv_at hl 1 rfl) ?_
  refine zget (ci := 3) (C := RX3) (T := TX3) (v := .ref (ad 3 l0 (3 + 1))) (k := 3) hx hb hts inW_3 hown hK hZ8 g1.1 g1.2 rfl (by decide) k_1_112 rfl (D_180 W_prog_5_method_16_code_32 14 rfl rfl rfl) ?_
  refine lv_iload_n hx hb (D_28 W_prog_5_method_16_code_32 17 rfl rfl) rfl (lv_at hl 0 rfl) ?_
  refine lv_iconst (v := iI (-1)) hx hb (D_2 W_prog_5_method_16_code_32 18 rfl rfl) rfl ?_
  refine zast (ci := 3) (k := 3) hx hb hK rfl hZ8 hS8 g1.1 g1.2 rfl (Nat.le_of_ble_eq_true rfl) g4.1 g4.2 (D_79 W_prog_5_method_16_code_32 19 rfl rfl) (fun H9 locs9 hZ9 hS9 => ?_)
  refine lv_aload_n hx hb (D_42 W_prog_5_method_16_code_32 20 rfl rfl) rfl (lv_at hl 1 rfl) ?_
  refine zget (ci := 3) (C := RX3) (T := TX3) (v := .ref (ad 3 l0 (4 + 1))) (k := 4) hx hb hts inW_3 hown hK hZ9 g1.1 g1.2 rfl (by decide) k_1_114 rfl (D_180 W_prog_5_method_16_code_32 21 rfl rfl rfl) ?_
  refine lv_iload_n hx hb (D_28 W_prog_5_method_16_code_32 24 rfl rfl) rfl (lv_at hl 0 rfl) ?_
  refine lv_iconst (v := iI (-1)) hx hb (D_2 W_prog_5_method_16_code_32 25 rfl rfl) rfl ?_
  refine zast (ci := 3) (k := 4) hx hb hK rfl hZ9 hS9 g1.1 g1.2 rfl (Nat.le_of_ble_eq_true rfl) g4.1 g4.2 (D_79 W_prog_5_method_16_code_32 26 rfl rfl) (fun H10 locs10 hZ10 hS10 => ?_)
  refine lv_aload_n hx hb (D_42 W_prog_5_method_16_code_32 27 rfl rfl) rfl (lv_at hl 1 rfl) ?_
  refine zget (ci := 3) (C := RX3) (T := TX3) (v := .ref (ad 3 l0 (5 + 1))) (k := 5) hx hb hts inW_3 hown hK hZ10 g1.1 g1.2 rfl (by decide) k_1_116 rfl (D_180 W_prog_5_method_16_code_32 28 rfl rfl rfl) ?_
  refine lv_iload_n hx hb (D_28 W_prog_5_method_16_code_32 31 rfl rfl) rfl (lv_at hl 0 rfl) ?_
  refine lv_iconst (v := iI (-1)) hx hb (D_2 W_prog_5_method_16_code_64 0 rfl rfl) rfl ?_
  refine zast (ci := 3) (k := 5) hx hb hK rfl hZ10 hS10 g1.1 g1.2 rfl (Nat.le_of_ble_eq_true rfl) g4.1 g4.2 (D_79 W_prog_5_method_16_code_64 1 rfl rfl) (fun H11 locs11 hZ11 hS11 => ?_)
  refine lv_aload_n hx hb (D_42 W_prog_5_method_16_code_64 2 rfl rfl) rfl (lv_at hl 1 rfl) ?_
  refine zget (ci := 3) (C := RX3) (T := TX3) (v := .ref (ad 3 l0 (6 + 1))) (k := 6) hx hb hts inW_3 hown hK hZ11 g1.1 g1.2 rfl (by decide) k_1_118 rfl (D_180 W_prog_5_method_16_code_64 3 rfl rfl rfl) ?_
  refine lv_iload_n hx hb (D_28 W_prog_5_method_16_code_64 6 rfl rfl) rfl (lv_at hl 0 rfl) ?_
  refine lv_iconst (v := iI 0) hx hb (D_3 W_prog_5_method_16_code_64 7 rfl rfl) rfl ?_
  refine zast (ci := 3) (k := 6) hx hb hK rfl hZ11 hS11 g1.1 g1.2 rfl (Nat.le_of_ble_eq_true rfl) g4.1 g4.2 (D_79 W_prog_5_method_16_code_64 8 rfl rfl) (fun H12 locs12 hZ12 hS12 => ?_)
  refine lv_aload_n hx hb (D_42 W_prog_5_method_16_code_64 9 rfl rfl) rfl (lv_at hl 1 rfl) ?_
  refine zget (ci := 3) (C := RX3) (T := TX3) (v := .ref (ad 3 l0 (7 + 1))) (k := 7) hx hb hts inW_3 hown hK hZ12 g1.1 g1.2 rfl (by decide) k_1_120 rfl (D_180 W_prog_5_method_16_code_64 10 rfl rfl rfl) ?_
  refine lv_iload_n hx hb (D_28 W_prog_5_method_16_code_64 13 rfl rfl) rfl (lv_at hl 0 rfl) ?_
  refine lv_iconst (v := iI 0) hx hb (D_3 W_prog_5_method_16_code_64 14 rfl rfl) rfl ?_
  refine zast (ci := 3) (k := 7) hx hb hK rfl hZ12 hS12 g1.1 g1.2 rfl (Nat.le_of_ble_eq_true rfl) g4.1 g4.2 (D_79 W_prog_5_method_16_code_64 15 rfl rfl) (fun H13 locs13 hZ13 hS13 => ?_)
  refine lv_iload_n hx hb (D_28 W_prog_5_method_16_code_64 16 rfl rfl) rfl (lv_at hl 0 rfl) ?_
  cases hf
  exact W.iret hx hb hr (fun t ht hW => ⟨⟨_, (), rfl, rfl, by rw [ht]; exact hZ13, va_K.moved hW.alike hK⟩, hS13.F ht⟩) hS13.2.2 (D_172 W_prog_5_method_16_code_64 17 rfl rfl) hlk

abbrev Q_Parser_indexOf (K : zK) (D : va_G) (ca : Nat → ClassId) (ad : Nat → Int → Nat → Nat) (L : List Nat) (r : Int) (F : zF) (B : zB) (A : Nat → Prop) : Array Value → State → Outcome → State → Prop := va_Qi (S := Unit) (fun p _ => p = iI r) (fun _ => zPo D ca ad lnC K.2 L F B A) A
def f_Parser_indexOf_2 (K : zK) : Nat → Int → Nat → Int → zF → zB → zO
  | 0, _, _, _, _, _ => none
  | n + 1, l3, l0, l1, F, B => if l0 < staL.length then if r32 l3 then if r32 (ztl l0) then (if (ztl l0) ≤ l3 then some ((-1), F, B) else if (zta l0).2.2.2.1 = true then if 0 ≤ l3 ∧ l3 < ztl l0 then if r64 (ztv l0 l3) then if r64 l1 then (if (zcmp (ztv l0 l3) l1) = 0 then some (l3, F, B) else f_Parser_indexOf_2 K n (l3 + 1) l0 l1 F B) else none else none else none else none) else none else none else none
set_option maxHeartbeats 4000000 in
set_option maxRecDepth 100000 in
theorem b_Parser_indexOf_2 {D : va_G} {ca : Nat → ClassId} {ad : Nat → Int → Nat → Nat} {L : List Nat} {aS vS : Nat → Nat} {A : Nat → Prop} {p : Program} {l : Launch} {e : Env} {s : State} {m : MethodId} {args : Array Value} {below : List Frame} {meth : Method} {c : Code} {K : zK} {r : Int} {F9 : zF} {B9 : zB} (X : zX D ca L aS vS A p s m args meth c prog_5_method_13_code 4 (Option.some Jvm.ClassFile.FieldType.int) "StaveHouse$Parser") : ∀ {n : Nat} {l3 : Int} {l0 : Nat} {l1 : Int} {F : zF} {B : zB} {H : Heap} {locs : List Loc} {ls : Array Slot}, f_Parser_indexOf_2 K n l3 l0 l1 F B = some (r, F9, B9) → zH D ca ad lnC K.2 L F B A H → va_S A s.heap H locs → lv_has ls 4 [(3, .int (iI l3)), (0, .ref (vS (1000 + l0))), (1, .long (lI l1))] → W p l e ({ frames := 0, cells := 0, slots := 0, locals := 0 } : Room) s m args below meth c H locs 0 0 (MQ below (Q_Parser_indexOf K D ca ad L r F9 B9 A) args s 0 0 A) (F0 m 2 ls []) := by
  obtain ⟨hx, hb, hr, hml, hown, hts, hlk, hK, hA, hL, hX⟩ := id X
  intro n
  induction n with
  | zero =>
    intros
    rename_i hf _ _ _
    cases hf
  | succ n ih =>
    intro l3 l0 l1 F B H locs ls hf hZ hS hl
    replace hf : (if l0 < staL.length then if r32 l3 then if r32 (ztl l0) then (if (ztl l0) ≤ l3 then some ((-1), F, B) else if (zta l0).2.2.2.1 = true then if 0 ≤ l3 ∧ l3 < ztl l0 then if r64 (ztv l0 l3) then if r64 l1 then (if (zcmp (ztv l0 l3) l1) = 0 then some (l3, F, B) else f_Parser_indexOf_2 K n (l3 + 1) l0 l1 F B) else none else none else none else none) else none else none else none) = some (r, F9, B9) := hf
    refine lv_iload_n hx hb (D_29 W_prog_5_method_13_code_0 2 rfl rfl) rfl (lv_at hl 0 rfl) ?_
    refine lv_aload_n hx hb (D_42 W_prog_5_method_13_code_0 3 rfl rfl) rfl (lv_at hl 1 rfl) ?_
    obtain ⟨g1, hf⟩ := gif hf
    refine va_tlen (v := iI (ztl l0)) hx hb (ztT hX g1) hS (ztl_n _) (D_190 W_prog_5_method_13_code_0 4 rfl rfl) ?_
    obtain ⟨g2, hf⟩ := gif hf
    obtain ⟨g3, hf⟩ := gif hf
    refine zge (tgt := 24) hx hb g2 g3 (D_162 W_prog_5_method_13_code_0 5 rfl rfl rfl) (by decide) (fun h4 => ?_) (fun h4 => ?_)
    · replace hf := gpos hf h4
      refine lv_iconst (v := iI (-1)) hx hb (D_2 W_prog_5_method_13_code_0 24 rfl rfl) rfl ?_
      cases hf
      exact W.iret hx hb hr (fun t ht hW => ⟨⟨_, (), rfl, rfl, by rw [ht]; exact hZ, va_K.moved hW.alike hK⟩, hS.F ht⟩) hS.2.2 (D_172 W_prog_5_method_13_code_0 25 rfl rfl) hlk
    · replace hf := gneg hf h4
      refine lv_aload_n hx hb (D_42 W_prog_5_method_13_code_0 8 rfl rfl) rfl (lv_at hl 1 rfl) ?_
      refine lv_iload_n hx hb (D_29 W_prog_5_method_13_code_0 9 rfl rfl) rfl (lv_at hl 0 rfl) ?_
      obtain ⟨g5, hf⟩ := gif hf
      obtain ⟨g6, hf⟩ := gif hf
      refine va_tl (v := .long (lI (ztv l0 l3))) hx hb (ztL hX g1 g5) hS (zt_in g1 g6) (ztL_v g1 g6) (D_47 W_prog_5_method_13_code_0 10 rfl rfl) ?_
      refine lv_lload_n hx hb (D_31 W_prog_5_method_13_code_0 11 rfl rfl) rfl (lv_at hl 2 rfl) ?_
      obtain ⟨g7, hf⟩ := gif hf
      obtain ⟨g8, hf⟩ := gif hf
      refine zcmp_r hx hb g7 g8 (D_148 W_prog_5_method_13_code_0 12 rfl rfl) ?_
      refine z0ne (tgt := 18) hx hb zcmp_32 (D_154 W_prog_5_method_13_code_0 13 rfl rfl rfl) (by decide) (fun h9 => ?_) (fun h9 => ?_)
      · replace hf := gneg hf h9
        refine lv_iinc (v := iI (l3 + 1)) (lv' := [(3, .int (iI (l3 + 1))), (0, .ref (vS (1000 + l0))), (1, .long (lI l1))]) hx hb d_5_13_18 hl (k := 0) rfl (iI_add _ 1) (by decide) rfl (fun ls hl => ?_)
        refine lv_goto (tgt := 2) hx hb (D_167 W_prog_5_method_13_code_0 21 rfl rfl rfl) (by decide) ?_
        exact ih hf hZ hS (lv_sub hl [0, 1, 2] rfl)
      · replace hf := gpos hf h9
        refine lv_iload_n hx hb (D_29 W_prog_5_method_13_code_0 16 rfl rfl) rfl (lv_at hl 0 rfl) ?_
        cases hf
        exact W.iret hx hb hr (fun t ht hW => ⟨⟨_, (), rfl, rfl, by rw [ht]; exact hZ, va_K.moved hW.alike hK⟩, hS.F ht⟩) hS.2.2 (D_172 W_prog_5_method_13_code_0 17 rfl rfl) hlk

def f_Parser_indexOf (K : zK) (l0 : Nat) (l1 : Int) (F : zF) (B : zB) : zO := f_Parser_indexOf_2 K K.1 0 l0 l1 F B
set_option maxHeartbeats 4000000 in
set_option maxRecDepth 100000 in
theorem c_Parser_indexOf {l : Launch} {D : va_G} {ca : Nat → ClassId} {ad : Nat → Int → Nat → Nat} {L : List Nat} {aS vS : Nat → Nat} {sz : Nat} {K : zK}  {l0 : Nat} {l1 : Int} {F F9 : zF} {B B9 : zB} {r : Int} (hf : f_Parser_indexOf K l0 l1 F B = some (r, F9, B9)) : Met l ({ cls := "StaveHouse$Parser", name := "indexOf", desc := "([JJ)I" } : Jvm.MethodName) (Cond.code ({ cls := "StaveHouse$Parser", name := "indexOf", desc := "([JJ)I" } : Jvm.MethodName) prog_5_method_13_code 4 (Option.some Jvm.ClassFile.FieldType.int) :: wAll) ({ frames := 0, cells := 0, slots := 0, locals := 0 } : Room) (va_Pc [.ref (vS (1000 + l0)), .long (lI l1)] (zPre D ca ad lnC K.2 L aS vS F B sz)) (Q_Parser_indexOf K D ca ad L r F9 B9 (zA L sz)) 0 0 (zA L sz) := by
  refine zMet (Qc := Q_Parser_indexOf K D ca ad L r F9 B9) (lv := [(0, .ref (vS (1000 + l0))), (1, .long (lI l1))]) (by decide) (Nat.le_of_ble_eq_true rfl) rfl (fun A p e s m below meth c ls X hZ hS hl => ?_)
  obtain ⟨hx, hb, hr, hml, hown, hts, hlk, hK, hA, hL, hX⟩ := id X
  replace hf : (f_Parser_indexOf_2 K K.1 0 l0 l1 F B) = some (r, F9, B9) := hf
  refine lv_iconst (v := iI 0) hx hb (D_3 W_prog_5_method_13_code_0 0 rfl rfl) rfl ?_
  refine lv_istore_n (lv' := [(3, .int (iI 0)), (0, .ref (vS (1000 + l0))), (1, .long (lI l1))]) hx hb (D_62 W_prog_5_method_13_code_0 1 rfl rfl) rfl hl (by decide) rfl (fun ls hl => ?_)
  exact b_Parser_indexOf_2 X hf hZ hS (lv_sub hl [0, 1, 2] rfl)

abbrev Q_Parser_refuse (K : zK) (D : va_G) (ca : Nat → ClassId) (ad : Nat → Int → Nat → Nat) (L : List Nat) (r : Int) (F : zF) (B : zB) (A : Nat → Prop) : Array Value → State → Outcome → State → Prop := va_Qi (S := Unit) (fun p _ => p = iI r) (fun _ => zPo D ca ad lnC K.2 L F B A) A
def f_Parser_refuse_17 (K : zK) (l0 : Int) (s0 : Int) (s1 : Int) (F : zF) (B : zB) : zO := if 0 ≤ l0 ∧ l0 < K.2 3 then if 0 ≤ (F 3 l0 11) ∧ (F 3 l0 11) < K.2 10 then if 0 ≤ s0 ∧ s0 < K.2 3 then some (0, (zup3 F 3 s0 21 (s1 + (16 * (F 10 (F 3 l0 11) 1)))), B) else none else none else none
set_option maxHeartbeats 4000000 in
set_option maxRecDepth 100000 in
theorem b_Parser_refuse_17 {D : va_G} {ca : Nat → ClassId} {ad : Nat → Int → Nat → Nat} {L : List Nat} {aS vS : Nat → Nat} {A : Nat → Prop} {p : Program} {l : Launch} {e : Env} {s : State} {m : MethodId} {args : Array Value} {below : List Frame} {meth : Method} {c : Code} {K : zK} {r : Int} {F9 : zF} {B9 : zB} (X : zX D ca L aS vS A p s m args meth c prog_5_method_3_code 2 (Option.some Jvm.ClassFile.FieldType.boolean) "StaveHouse$Parser") {l0 : Int} {s0 : Int} {s1 : Int} {F : zF} {B : zB} {H : Heap} {locs : List Loc} {ls : Array Slot} (hf : f_Parser_refuse_17 K l0 s0 s1 F B = some (r, F9, B9)) (hZ : zH D ca ad lnC K.2 L F B A H) (hS : va_S A s.heap H locs) (hl : lv_has ls 2 [(0, .ref (ad 3 l0 0))]) : W p l e ({ frames := 0, cells := 0, slots := 0, locals := 0 } : Room) s m args below meth c H locs 0 0 (MQ below (Q_Parser_refuse K D ca ad L r F9 B9 A) args s 0 0 A) (F0 m 17 ls [.int (iI s1), va_rf (zrf ad 3 s0)]) := by
  obtain ⟨hx, hb, hr, hml, hown, hts, hlk, hK, hA, hL, hX⟩ := id X
  replace hf : (if 0 ≤ l0 ∧ l0 < K.2 3 then if 0 ≤ (F 3 l0 11) ∧ (F 3 l0 11) < K.2 10 then if 0 ≤ s0 ∧ s0 < K.2 3 then some (0, (zup3 F 3 s0 21 (s1 + (16 * (F 10 (F 3 l0 11) 1)))), B) else none else none else none) = some (r, F9, B9) := hf
  refine lv_bipush (v := iI 16) hx hb (D_16 W_prog_5_method_3_code_0 17 rfl rfl rfl) (by decide) ?_
  refine lv_aload_n hx hb (D_42 W_prog_5_method_3_code_0 19 rfl rfl) rfl (lv_at hl 0 rfl) ?_
  obtain ⟨g5, hf⟩ := gif hf
  refine zget (ci := 3) (C := RX3) (T := TX3) (v := va_rf (zrf ad 10 (F 3 l0 11))) (k := 11) hx hb hts inW_3 hown hK hZ g5.1 g5.2 rfl (by decide) k_1_128 rfl (D_180 W_prog_5_method_3_code_0 20 rfl rfl rfl) ?_
  obtain ⟨g6, hf⟩ := gif hf
  refine zunrf g6.1 ?_
  refine zget (ci := 10) (C := RX10) (T := TX10) (v := .int (iI (F 10 (F 3 l0 11) 1))) (k := 1) hx hb hts inW_10 hown hK hZ g6.1 g6.2 rfl (by decide) k_1_75 rfl (D_180 W_prog_5_method_3_code_0 23 rfl rfl rfl) ?_
  refine zmul hx hb (D_104 W_prog_5_method_3_code_0 26 rfl rfl) ?_
  refine zadd hx hb (D_96 W_prog_5_method_3_code_0 27 rfl rfl) ?_
  obtain ⟨g7, hf⟩ := gif hf
  refine W.eq (g2 := F0 m 28 ls [.int (iI (s1 + (16 * (F 10 (F 3 l0 11) 1)))), .ref (ad 3 s0 0)]) (by rw [zrf_pos (ad := ad) (t := 3) g7.1]; try rfl) ?_
  refine zput (ci := 3) (C := RX3) (T := TX3) (k := 21) (v := (s1 + (16 * (F 10 (F 3 l0 11) 1)))) (w := .int (iI (s1 + (16 * (F 10 (F 3 l0 11) 1))))) hx hb hts inW_3 tyX3 tyX3_ok nmX3 hown hK hZ hS g7.1 g7.2 rfl (by decide) k_1_138 rfl (fun G h => congrArg (fun q => Value.int (iI q)) h) rfl rfl (zno (by decide)) (D_181 W_prog_5_method_3_code_0 28 rfl rfl rfl) (fun H8 locs8 hZ8 hS8 => ?_)
  refine lv_iconst (v := iI 0) hx hb (D_3 W_prog_5_method_3_code_0 31 rfl rfl) rfl ?_
  cases hf
  exact W.zret hx hb hr rfl (fun t ht hW => ⟨⟨_, (), rfl, rfl, by rw [ht]; exact hZ8, va_K.moved hW.alike hK⟩, hS8.F ht⟩) hS8.2.2 (D_172 W_prog_5_method_3_code_32 0 rfl rfl) hlk

def f_Parser_refuse (K : zK) (l0 : Int) (l1 : Int) (F : zF) (B : zB) : zO := if 0 ≤ l0 ∧ l0 < K.2 3 then if 0 ≤ (F 3 l0 11) ∧ (F 3 l0 11) < K.2 10 then if r32 (F 10 (F 3 l0 11) 0) then (if (F 10 (F 3 l0 11) 0) = 1 then f_Parser_refuse_17 K l0 l0 1 F B else f_Parser_refuse_17 K l0 l0 l1 F B) else none else none else none
set_option maxHeartbeats 4000000 in
set_option maxRecDepth 100000 in
theorem c_Parser_refuse {l : Launch} {D : va_G} {ca : Nat → ClassId} {ad : Nat → Int → Nat → Nat} {L : List Nat} {aS vS : Nat → Nat} {sz : Nat} {K : zK}  {l0 : Int} {l1 : Int} {F F9 : zF} {B B9 : zB} {r : Int} (hf : f_Parser_refuse K l0 l1 F B = some (r, F9, B9)) : Met l ({ cls := "StaveHouse$Parser", name := "refuse", desc := "(I)Z" } : Jvm.MethodName) (Cond.code ({ cls := "StaveHouse$Parser", name := "refuse", desc := "(I)Z" } : Jvm.MethodName) prog_5_method_3_code 2 (Option.some Jvm.ClassFile.FieldType.boolean) :: wAll) ({ frames := 0, cells := 0, slots := 0, locals := 0 } : Room) (va_Pc [.ref (ad 3 l0 0), .int (iI l1)] (zPre D ca ad lnC K.2 L aS vS F B sz)) (Q_Parser_refuse K D ca ad L r F9 B9 (zA L sz)) 0 0 (zA L sz) := by
  refine zMet (Qc := Q_Parser_refuse K D ca ad L r F9 B9) (lv := [(0, .ref (ad 3 l0 0)), (1, .int (iI l1))]) (by decide) (Nat.le_of_ble_eq_true rfl) rfl (fun A p e s m below meth c ls X hZ hS hl => ?_)
  obtain ⟨hx, hb, hr, hml, hown, hts, hlk, hK, hA, hL, hX⟩ := id X
  replace hf : (if 0 ≤ l0 ∧ l0 < K.2 3 then if 0 ≤ (F 3 l0 11) ∧ (F 3 l0 11) < K.2 10 then if r32 (F 10 (F 3 l0 11) 0) then (if (F 10 (F 3 l0 11) 0) = 1 then f_Parser_refuse_17 K l0 l0 1 F B else f_Parser_refuse_17 K l0 l0 l1 F B) else none else none else none) = some (r, F9, B9) := hf
  refine lv_aload_n hx hb (D_42 W_prog_5_method_3_code_0 0 rfl rfl) rfl (lv_at hl 0 rfl) ?_
  refine lv_aload_n hx hb (D_42 W_prog_5_method_3_code_0 1 rfl rfl) rfl (lv_at hl 0 rfl) ?_
  obtain ⟨g1, hf⟩ := gif hf
  refine zget (ci := 3) (C := RX3) (T := TX3) (v := va_rf (zrf ad 10 (F 3 l0 11))) (k := 11) hx hb hts inW_3 hown hK hZ g1.1 g1.2 rfl (by decide) k_1_128 rfl (D_180 W_prog_5_method_3_code_0 2 rfl rfl rfl) ?_
  obtain ⟨g2, hf⟩ := gif hf
  refine zunrf g2.1 ?_
  refine zget (ci := 10) (C := RX10) (T := TX10) (v := .int (iI (F 10 (F 3 l0 11) 0))) (k := 0) hx hb hts inW_10 hown hK hZ g2.1 g2.2 rfl (by decide) k_1_72 rfl (D_180 W_prog_5_method_3_code_0 5 rfl rfl rfl) ?_
  refine lv_iconst (v := iI 1) hx hb (D_4 W_prog_5_method_3_code_0 8 rfl rfl) rfl ?_
  obtain ⟨g3, hf⟩ := gif hf
  refine zne (tgt := 16) hx hb g3 (by decide) (D_160 W_prog_5_method_3_code_0 9 rfl rfl rfl) (by decide) (fun h4 => ?_) (fun h4 => ?_)
  · replace hf := gneg hf h4
    refine lv_iload_n hx hb (D_27 W_prog_5_method_3_code_0 16 rfl rfl) rfl (lv_at hl 1 rfl) ?_
    refine W.eq (g2 := F0 m 17 ls [.int (iI l1), va_rf (zrf ad 3 l0)]) (by rw [zrf_pos (ad := ad) (t := 3) g1.1]; try rfl) ?_
    exact b_Parser_refuse_17 X hf hZ hS (lv_sub hl [0] rfl)
  · replace hf := gpos hf h4
    refine lv_iconst (v := iI 1) hx hb (D_4 W_prog_5_method_3_code_0 12 rfl rfl) rfl ?_
    refine lv_goto (tgt := 17) hx hb (D_167 W_prog_5_method_3_code_0 13 rfl rfl rfl) (by decide) ?_
    refine W.eq (g2 := F0 m 17 ls [.int (iI 1), va_rf (zrf ad 3 l0)]) (by rw [zrf_pos (ad := ad) (t := 3) g1.1]; try rfl) ?_
    exact b_Parser_refuse_17 X hf hZ hS (lv_sub hl [0] rfl)

abbrev Q_Parser_letNamed (K : zK) (D : va_G) (ca : Nat → ClassId) (ad : Nat → Int → Nat → Nat) (L : List Nat) (r : Int) (F : zF) (B : zB) (A : Nat → Prop) : Array Value → State → Outcome → State → Prop := va_Qi (S := Unit) (fun p _ => p = iI r) (fun _ => zPo D ca ad lnC K.2 L F B A) A
def f_Parser_letNamed_2 (K : zK) : Nat → Int → Int → Int → zF → zB → zO
  | 0, _, _, _, _, _ => none
  | n + 1, l3, l0, l1, F, B => if 0 ≤ l0 ∧ l0 < K.2 3 then if r32 l3 then if r32 (F 3 l0 16) then (if (F 3 l0 16) ≤ l3 then some ((-1), F, B) else if 0 ≤ l3 ∧ l3 < 6 then if r64 (B 3 l0 12 l3) then if r64 l1 then (if (zcmp (B 3 l0 12 l3) l1) = 0 then some (B 3 l0 13 l3, F, B) else f_Parser_letNamed_2 K n (l3 + 1) l0 l1 F B) else none else none else none) else none else none else none
set_option maxHeartbeats 4000000 in
set_option maxRecDepth 100000 in
theorem b_Parser_letNamed_2 {D : va_G} {ca : Nat → ClassId} {ad : Nat → Int → Nat → Nat} {L : List Nat} {aS vS : Nat → Nat} {A : Nat → Prop} {p : Program} {l : Launch} {e : Env} {s : State} {m : MethodId} {args : Array Value} {below : List Frame} {meth : Method} {c : Code} {K : zK} {r : Int} {F9 : zF} {B9 : zB} (X : zX D ca L aS vS A p s m args meth c prog_5_method_10_code 4 (Option.some Jvm.ClassFile.FieldType.int) "StaveHouse$Parser") : ∀ {n : Nat} {l3 : Int} {l0 : Int} {l1 : Int} {F : zF} {B : zB} {H : Heap} {locs : List Loc} {ls : Array Slot}, f_Parser_letNamed_2 K n l3 l0 l1 F B = some (r, F9, B9) → zH D ca ad lnC K.2 L F B A H → va_S A s.heap H locs → lv_has ls 4 [(3, .int (iI l3)), (0, .ref (ad 3 l0 0)), (1, .long (lI l1))] → W p l e ({ frames := 0, cells := 0, slots := 0, locals := 0 } : Room) s m args below meth c H locs 0 0 (MQ below (Q_Parser_letNamed K D ca ad L r F9 B9 A) args s 0 0 A) (F0 m 2 ls []) := by
  obtain ⟨hx, hb, hr, hml, hown, hts, hlk, hK, hA, hL, hX⟩ := id X
  intro n
  induction n with
  | zero =>
    intros
    rename_i hf _ _ _
    cases hf
  | succ n ih =>
    intro l3 l0 l1 F B H locs ls hf hZ hS hl
    replace hf : (if 0 ≤ l0 ∧ l0 < K.2 3 then if r32 l3 then if r32 (F 3 l0 16) then (if (F 3 l0 16) ≤ l3 then some ((-1), F, B) else if 0 ≤ l3 ∧ l3 < 6 then if r64 (B 3 l0 12 l3) then if r64 l1 then (if (zcmp (B 3 l0 12 l3) l1) = 0 then some (B 3 l0 13 l3, F, B) else f_Parser_letNamed_2 K n (l3 + 1) l0 l1 F B) else none else none else none) else none else none else none) = some (r, F9, B9) := hf
    refine lv_iload_n hx hb (D_29 W_prog_5_method_10_code_0 2 rfl rfl) rfl (lv_at hl 0 rfl) ?_
    refine lv_aload_n hx hb (D_42 W_prog_5_method_10_code_0 3 rfl rfl) rfl (lv_at hl 1 rfl) ?_
    obtain ⟨g1, hf⟩ := gif hf
    refine zget (ci := 3) (C := RX3) (T := TX3) (v := .int (iI (F 3 l0 16))) (k := 16) hx hb hts inW_3 hown hK hZ g1.1 g1.2 rfl (by decide) k_1_133 rfl (D_180 W_prog_5_method_10_code_0 4 rfl rfl rfl) ?_
    obtain ⟨g2, hf⟩ := gif hf
    obtain ⟨g3, hf⟩ := gif hf
    refine zge (tgt := 34) hx hb g2 g3 (D_162 W_prog_5_method_10_code_0 7 rfl rfl rfl) (by decide) (fun h4 => ?_) (fun h4 => ?_)
    · replace hf := gpos hf h4
      refine lv_iconst (v := iI (-1)) hx hb (D_2 W_prog_5_method_10_code_32 2 rfl rfl) rfl ?_
      cases hf
      exact W.iret hx hb hr (fun t ht hW => ⟨⟨_, (), rfl, rfl, by rw [ht]; exact hZ, va_K.moved hW.alike hK⟩, hS.F ht⟩) hS.2.2 (D_172 W_prog_5_method_10_code_32 3 rfl rfl) hlk
    · replace hf := gneg hf h4
      refine lv_aload_n hx hb (D_42 W_prog_5_method_10_code_0 10 rfl rfl) rfl (lv_at hl 1 rfl) ?_
      refine zget (ci := 3) (C := RX3) (T := TX3) (v := .ref (ad 3 l0 (12 + 1))) (k := 12) hx hb hts inW_3 hown hK hZ g1.1 g1.2 rfl (by decide) k_1_129 rfl (D_180 W_prog_5_method_10_code_0 11 rfl rfl rfl) ?_
      refine lv_iload_n hx hb (D_29 W_prog_5_method_10_code_0 14 rfl rfl) rfl (lv_at hl 0 rfl) ?_
      obtain ⟨g5, hf⟩ := gif hf
      refine zlald (ci := 3) (k := 12) hx hb hK rfl hZ g1.1 g1.2 rfl (Nat.le_of_ble_eq_true rfl) g5.1 g5.2 (D_47 W_prog_5_method_10_code_0 15 rfl rfl) ?_
      refine lv_lload_n hx hb (D_31 W_prog_5_method_10_code_0 16 rfl rfl) rfl (lv_at hl 2 rfl) ?_
      obtain ⟨g6, hf⟩ := gif hf
      obtain ⟨g7, hf⟩ := gif hf
      refine zcmp_r hx hb g6 g7 (D_148 W_prog_5_method_10_code_0 17 rfl rfl) ?_
      refine z0ne (tgt := 28) hx hb zcmp_32 (D_154 W_prog_5_method_10_code_0 18 rfl rfl rfl) (by decide) (fun h8 => ?_) (fun h8 => ?_)
      · replace hf := gneg hf h8
        refine lv_iinc (v := iI (l3 + 1)) (lv' := [(3, .int (iI (l3 + 1))), (0, .ref (ad 3 l0 0)), (1, .long (lI l1))]) hx hb d_5_10_28 hl (k := 0) rfl (iI_add _ 1) (by decide) rfl (fun ls hl => ?_)
        refine lv_goto (tgt := 2) hx hb (D_167 W_prog_5_method_10_code_0 31 rfl rfl rfl) (by decide) ?_
        exact ih hf hZ hS (lv_sub hl [0, 1, 2] rfl)
      · replace hf := gpos hf h8
        refine lv_aload_n hx hb (D_42 W_prog_5_method_10_code_0 21 rfl rfl) rfl (lv_at hl 1 rfl) ?_
        refine zget (ci := 3) (C := RX3) (T := TX3) (v := .ref (ad 3 l0 (13 + 1))) (k := 13) hx hb hts inW_3 hown hK hZ g1.1 g1.2 rfl (by decide) k_1_130 rfl (D_180 W_prog_5_method_10_code_0 22 rfl rfl rfl) ?_
        refine lv_iload_n hx hb (D_29 W_prog_5_method_10_code_0 25 rfl rfl) rfl (lv_at hl 0 rfl) ?_
        refine zald (ci := 3) (k := 13) hx hb hK rfl hZ g1.1 g1.2 rfl (Nat.le_of_ble_eq_true rfl) g5.1 g5.2 (D_46 W_prog_5_method_10_code_0 26 rfl rfl) ?_
        cases hf
        exact W.iret hx hb hr (fun t ht hW => ⟨⟨_, (), rfl, rfl, by rw [ht]; exact hZ, va_K.moved hW.alike hK⟩, hS.F ht⟩) hS.2.2 (D_172 W_prog_5_method_10_code_0 27 rfl rfl) hlk

def f_Parser_letNamed (K : zK) (l0 : Int) (l1 : Int) (F : zF) (B : zB) : zO := f_Parser_letNamed_2 K K.1 0 l0 l1 F B
set_option maxHeartbeats 4000000 in
set_option maxRecDepth 100000 in
theorem c_Parser_letNamed {l : Launch} {D : va_G} {ca : Nat → ClassId} {ad : Nat → Int → Nat → Nat} {L : List Nat} {aS vS : Nat → Nat} {sz : Nat} {K : zK}  {l0 : Int} {l1 : Int} {F F9 : zF} {B B9 : zB} {r : Int} (hf : f_Parser_letNamed K l0 l1 F B = some (r, F9, B9)) : Met l ({ cls := "StaveHouse$Parser", name := "letNamed", desc := "(J)I" } : Jvm.MethodName) (Cond.code ({ cls := "StaveHouse$Parser", name := "letNamed", desc := "(J)I" } : Jvm.MethodName) prog_5_method_10_code 4 (Option.some Jvm.ClassFile.FieldType.int) :: wAll) ({ frames := 0, cells := 0, slots := 0, locals := 0 } : Room) (va_Pc [.ref (ad 3 l0 0), .long (lI l1)] (zPre D ca ad lnC K.2 L aS vS F B sz)) (Q_Parser_letNamed K D ca ad L r F9 B9 (zA L sz)) 0 0 (zA L sz) := by
  refine zMet (Qc := Q_Parser_letNamed K D ca ad L r F9 B9) (lv := [(0, .ref (ad 3 l0 0)), (1, .long (lI l1))]) (by decide) (Nat.le_of_ble_eq_true rfl) rfl (fun A p e s m below meth c ls X hZ hS hl => ?_)
  obtain ⟨hx, hb, hr, hml, hown, hts, hlk, hK, hA, hL, hX⟩ := id X
  replace hf : (f_Parser_letNamed_2 K K.1 0 l0 l1 F B) = some (r, F9, B9) := hf
  refine lv_iconst (v := iI 0) hx hb (D_3 W_prog_5_method_10_code_0 0 rfl rfl) rfl ?_
  refine lv_istore_n (lv' := [(3, .int (iI 0)), (0, .ref (ad 3 l0 0)), (1, .long (lI l1))]) hx hb (D_62 W_prog_5_method_10_code_0 1 rfl rfl) rfl hl (by decide) rfl (fun ls hl => ?_)
  exact b_Parser_letNamed_2 X hf hZ hS (lv_sub hl [0, 1, 2] rfl)

abbrev Q_Tokens_isSign (K : zK) (D : va_G) (ca : Nat → ClassId) (ad : Nat → Int → Nat → Nat) (L : List Nat) (r : Int) (F : zF) (B : zB) (A : Nat → Prop) : Array Value → State → Outcome → State → Prop := va_Qi (S := Unit) (fun p _ => p = iI r) (fun _ => zPo D ca ad lnC K.2 L F B A) A
def f_Tokens_isSign_23 (K : zK) (s0 : Int) (F : zF) (B : zB) : zO := if (s0 = 0 ∨ s0 = 1) then some (s0, F, B) else none
set_option maxHeartbeats 4000000 in
set_option maxRecDepth 100000 in
theorem b_Tokens_isSign_23 {D : va_G} {ca : Nat → ClassId} {ad : Nat → Int → Nat → Nat} {L : List Nat} {aS vS : Nat → Nat} {A : Nat → Prop} {p : Program} {l : Launch} {e : Env} {s : State} {m : MethodId} {args : Array Value} {below : List Frame} {meth : Method} {c : Code} {K : zK} {r : Int} {F9 : zF} {B9 : zB} (X : zX D ca L aS vS A p s m args meth c prog_12_method_4_code 2 (Option.some Jvm.ClassFile.FieldType.boolean) "StaveHouse$Tokens") {s0 : Int} {F : zF} {B : zB} {H : Heap} {locs : List Loc} {ls : Array Slot} (hf : f_Tokens_isSign_23 K s0 F B = some (r, F9, B9)) (hZ : zH D ca ad lnC K.2 L F B A H) (hS : va_S A s.heap H locs) (hl : lv_has ls 2 []) : W p l e ({ frames := 0, cells := 0, slots := 0, locals := 0 } : Room) s m args below meth c H locs 0 0 (MQ below (Q_Tokens_isSign K D ca ad L r F9 B9 A) args s 0 0 A) (F0 m 23 ls [.int (iI s0)]) := by
  obtain ⟨hx, hb, hr, hml, hown, hts, hlk, hK, hA, hL, hX⟩ := id X
  replace hf : (if (s0 = 0 ∨ s0 = 1) then some (s0, F, B) else none) = some (r, F9, B9) := hf
  obtain ⟨g8, hf⟩ := gif hf
  cases hf
  exact W.zret hx hb hr (zbool g8) (fun t ht hW => ⟨⟨_, (), rfl, rfl, by rw [ht]; exact hZ, va_K.moved hW.alike hK⟩, hS.F ht⟩) hS.2.2 (D_172 W_prog_12_method_4_code_0 23 rfl rfl) hlk

def f_Tokens_isSign_22 (K : zK)  (F : zF) (B : zB) : zO := f_Tokens_isSign_23 K 0 F B
set_option maxHeartbeats 4000000 in
set_option maxRecDepth 100000 in
theorem b_Tokens_isSign_22 {D : va_G} {ca : Nat → ClassId} {ad : Nat → Int → Nat → Nat} {L : List Nat} {aS vS : Nat → Nat} {A : Nat → Prop} {p : Program} {l : Launch} {e : Env} {s : State} {m : MethodId} {args : Array Value} {below : List Frame} {meth : Method} {c : Code} {K : zK} {r : Int} {F9 : zF} {B9 : zB} (X : zX D ca L aS vS A p s m args meth c prog_12_method_4_code 2 (Option.some Jvm.ClassFile.FieldType.boolean) "StaveHouse$Tokens")  {F : zF} {B : zB} {H : Heap} {locs : List Loc} {ls : Array Slot} (hf : f_Tokens_isSign_22 K  F B = some (r, F9, B9)) (hZ : zH D ca ad lnC K.2 L F B A H) (hS : va_S A s.heap H locs) (hl : lv_has ls 2 []) : W p l e ({ frames := 0, cells := 0, slots := 0, locals := 0 } : Room) s m args below meth c H locs 0 0 (MQ below (Q_Tokens_isSign K D ca ad L r F9 B9 A) args s 0 0 A) (F0 m 22 ls []) := by
  obtain ⟨hx, hb, hr, hml, hown, hts, hlk, hK, hA, hL, hX⟩ := id X
  replace hf : (f_Tokens_isSign_23 K 0 F B) = some (r, F9, B9) := hf
  refine lv_iconst (v := iI 0) hx hb (D_3 W_prog_12_method_4_code_0 22 rfl rfl) rfl ?_
  exact b_Tokens_isSign_23 X hf hZ hS (lv_sub hl [] rfl)

def f_Tokens_isSign (K : zK) (l0 : Int) (l1 : Int) (F : zF) (B : zB) : zO := if 0 ≤ l0 ∧ l0 < K.2 10 then if r32 (F 10 l0 0) then (if (F 10 l0 0) = 5 then if r32 l1 then if r64 (F 10 l0 2) then if r64 l1 then (if (zcmp (F 10 l0 2) l1) = 0 then f_Tokens_isSign_23 K 1 F B else f_Tokens_isSign_22 K F B) else none else none else none else f_Tokens_isSign_22 K F B) else none else none
set_option maxHeartbeats 4000000 in
set_option maxRecDepth 100000 in
theorem c_Tokens_isSign {l : Launch} {D : va_G} {ca : Nat → ClassId} {ad : Nat → Int → Nat → Nat} {L : List Nat} {aS vS : Nat → Nat} {sz : Nat} {K : zK}  {l0 : Int} {l1 : Int} {F F9 : zF} {B B9 : zB} {r : Int} (hf : f_Tokens_isSign K l0 l1 F B = some (r, F9, B9)) : Met l ({ cls := "StaveHouse$Tokens", name := "isSign", desc := "(C)Z" } : Jvm.MethodName) (Cond.code ({ cls := "StaveHouse$Tokens", name := "isSign", desc := "(C)Z" } : Jvm.MethodName) prog_12_method_4_code 2 (Option.some Jvm.ClassFile.FieldType.boolean) :: wAll) ({ frames := 0, cells := 0, slots := 0, locals := 0 } : Room) (va_Pc [.ref (ad 10 l0 0), .int (iI l1)] (zPre D ca ad lnC K.2 L aS vS F B sz)) (Q_Tokens_isSign K D ca ad L r F9 B9 (zA L sz)) 0 0 (zA L sz) := by
  refine zMet (Qc := Q_Tokens_isSign K D ca ad L r F9 B9) (lv := [(0, .ref (ad 10 l0 0)), (1, .int (iI l1))]) (by decide) (Nat.le_of_ble_eq_true rfl) rfl (fun A p e s m below meth c ls X hZ hS hl => ?_)
  obtain ⟨hx, hb, hr, hml, hown, hts, hlk, hK, hA, hL, hX⟩ := id X
  replace hf : (if 0 ≤ l0 ∧ l0 < K.2 10 then if r32 (F 10 l0 0) then (if (F 10 l0 0) = 5 then if r32 l1 then if r64 (F 10 l0 2) then if r64 l1 then (if (zcmp (F 10 l0 2) l1) = 0 then f_Tokens_isSign_23 K 1 F B else f_Tokens_isSign_22 K F B) else none else none else none else f_Tokens_isSign_22 K F B) else none else none) = some (r, F9, B9) := hf
  refine lv_aload_n hx hb (D_42 W_prog_12_method_4_code_0 0 rfl rfl) rfl (lv_at hl 0 rfl) ?_
  obtain ⟨g1, hf⟩ := gif hf
  refine zget (ci := 10) (C := RX10) (T := TX10) (v := .int (iI (F 10 l0 0))) (k := 0) hx hb hts inW_10 hown hK hZ g1.1 g1.2 rfl (by decide) k_1_73 rfl (D_180 W_prog_12_method_4_code_0 1 rfl rfl rfl) ?_
  refine lv_iconst (v := iI 5) hx hb (D_8 W_prog_12_method_4_code_0 4 rfl rfl) rfl ?_
  obtain ⟨g2, hf⟩ := gif hf
  refine zne (tgt := 22) hx hb g2 (by decide) (D_160 W_prog_12_method_4_code_0 5 rfl rfl rfl) (by decide) (fun h3 => ?_) (fun h3 => ?_)
  · replace hf := gneg hf h3
    exact b_Tokens_isSign_22 X hf hZ hS (lv_sub hl [] rfl)
  · replace hf := gpos hf h3
    refine lv_aload_n hx hb (D_42 W_prog_12_method_4_code_0 8 rfl rfl) rfl (lv_at hl 0 rfl) ?_
    refine zget (ci := 10) (C := RX10) (T := TX10) (v := .long (lI (F 10 l0 2))) (k := 2) hx hb hts inW_10 hown hK hZ g1.1 g1.2 rfl (by decide) k_1_76 rfl (D_180 W_prog_12_method_4_code_0 9 rfl rfl rfl) ?_
    refine lv_iload_n hx hb (D_27 W_prog_12_method_4_code_0 12 rfl rfl) rfl (lv_at hl 1 rfl) ?_
    obtain ⟨g4, hf⟩ := gif hf
    refine zi2l hx hb g4 (D_133 W_prog_12_method_4_code_0 13 rfl rfl) ?_
    obtain ⟨g5, hf⟩ := gif hf
    obtain ⟨g6, hf⟩ := gif hf
    refine zcmp_r hx hb g5 g6 (D_148 W_prog_12_method_4_code_0 14 rfl rfl) ?_
    refine z0ne (tgt := 22) hx hb zcmp_32 (D_154 W_prog_12_method_4_code_0 15 rfl rfl rfl) (by decide) (fun h7 => ?_) (fun h7 => ?_)
    · replace hf := gneg hf h7
      exact b_Tokens_isSign_22 X hf hZ hS (lv_sub hl [] rfl)
    · replace hf := gpos hf h7
      refine lv_iconst (v := iI 1) hx hb (D_4 W_prog_12_method_4_code_0 18 rfl rfl) rfl ?_
      refine lv_goto (tgt := 23) hx hb (D_167 W_prog_12_method_4_code_0 19 rfl rfl rfl) (by decide) ?_
      exact b_Tokens_isSign_23 X hf hZ hS (lv_sub hl [] rfl)

abbrev Q_Parser_takeOpening (K : zK) (D : va_G) (ca : Nat → ClassId) (ad : Nat → Int → Nat → Nat) (L : List Nat) (r : Int) (F : zF) (B : zB) (A : Nat → Prop) : Array Value → State → Outcome → State → Prop := va_Qi (S := Unit) (fun p _ => p = iI r) (fun _ => zPo D ca ad lnC K.2 L F B A) A
def f_Parser_takeOpening (K : zK) (l0 : Int) (l1 : Int) (F : zF) (B : zB) : zO := if 0 ≤ l0 ∧ l0 < K.2 3 then if 0 ≤ (F 3 l0 11) ∧ (F 3 l0 11) < K.2 10 then zbind (f_Tokens_isSign K (F 3 l0 11) l1 F B) (fun r3 F3 B3 => if r32 r3 then (if r3 = 0 then zbind (f_Parser_refuse K l0 2 F3 B3) (fun r13 F13 B13 => if (r13 = 0 ∨ r13 = 1) then some (r13, F13, B13) else none) else if r32 (F3 3 l0 18) then (if (F3 3 l0 18) < 8 then if 0 ≤ (F3 3 l0 11) ∧ (F3 3 l0 11) < K.2 10 then zbind (f_Tokens_advance K (F3 3 l0 11) (zup3 F3 3 l0 18 ((F3 3 l0 18) + 1)) B3) (fun r10 F10 B10 => some (1, F10, B10)) else none else zbind (f_Parser_refuse K l0 3 F3 B3) (fun r11 F11 B11 => if (r11 = 0 ∨ r11 = 1) then some (r11, F11, B11) else none)) else none) else none) else none else none
set_option maxHeartbeats 4000000 in
set_option maxRecDepth 100000 in
theorem c_Parser_takeOpening {l : Launch} {D : va_G} {ca : Nat → ClassId} {ad : Nat → Int → Nat → Nat} {L : List Nat} {aS vS : Nat → Nat} {sz : Nat} {K : zK}  {l0 : Int} {l1 : Int} {F F9 : zF} {B B9 : zB} {r : Int} (hf : f_Parser_takeOpening K l0 l1 F B = some (r, F9, B9)) : Met l ({ cls := "StaveHouse$Parser", name := "takeOpening", desc := "(C)Z" } : Jvm.MethodName) (Cond.code ({ cls := "StaveHouse$Parser", name := "takeOpening", desc := "(C)Z" } : Jvm.MethodName) prog_5_method_17_code 2 (Option.some Jvm.ClassFile.FieldType.boolean) :: wAll) ({ frames := 1, cells := 0, slots := 0, locals := 21 } : Room) (va_Pc [.ref (ad 3 l0 0), .int (iI l1)] (zPre D ca ad lnC K.2 L aS vS F B sz)) (Q_Parser_takeOpening K D ca ad L r F9 B9 (zA L sz)) 0 0 (zA L sz) := by
  refine zMet (Qc := Q_Parser_takeOpening K D ca ad L r F9 B9) (lv := [(0, .ref (ad 3 l0 0)), (1, .int (iI l1))]) (by decide) (Nat.le_of_ble_eq_true rfl) rfl (fun A p e s m below meth c ls X hZ hS hl => ?_)
  obtain ⟨hx, hb, hr, hml, hown, hts, hlk, hK, hA, hL, hX⟩ := id X
  replace hf : (if 0 ≤ l0 ∧ l0 < K.2 3 then if 0 ≤ (F 3 l0 11) ∧ (F 3 l0 11) < K.2 10 then zbind (f_Tokens_isSign K (F 3 l0 11) l1 F B) (fun r3 F3 B3 => if r32 r3 then (if r3 = 0 then zbind (f_Parser_refuse K l0 2 F3 B3) (fun r13 F13 B13 => if (r13 = 0 ∨ r13 = 1) then some (r13, F13, B13) else none) else if r32 (F3 3 l0 18) then (if (F3 3 l0 18) < 8 then if 0 ≤ (F3 3 l0 11) ∧ (F3 3 l0 11) < K.2 10 then zbind (f_Tokens_advance K (F3 3 l0 11) (zup3 F3 3 l0 18 ((F3 3 l0 18) + 1)) B3) (fun r10 F10 B10 => some (1, F10, B10)) else none else zbind (f_Parser_refuse K l0 3 F3 B3) (fun r11 F11 B11 => if (r11 = 0 ∨ r11 = 1) then some (r11, F11, B11) else none)) else none) else none) else none else none) = some (r, F9, B9) := hf
  refine lv_aload_n hx hb (D_42 W_prog_5_method_17_code_0 0 rfl rfl) rfl (lv_at hl 0 rfl) ?_
  obtain ⟨g1, hf⟩ := gif hf
  refine zget (ci := 3) (C := RX3) (T := TX3) (v := va_rf (zrf ad 10 (F 3 l0 11))) (k := 11) hx hb hts inW_3 hown hK hZ g1.1 g1.2 rfl (by decide) k_1_128 rfl (D_180 W_prog_5_method_17_code_0 1 rfl rfl rfl) ?_
  refine lv_iload_n hx hb (D_27 W_prog_5_method_17_code_0 4 rfl rfl) rfl (lv_at hl 1 rfl) ?_
  obtain ⟨g2, hf⟩ := gif hf
  refine W.eq (g2 := F0 m 5 ls [.int (iI l1), .ref (ad 10 (F 3 l0 11) 0)]) (by rw [zrf_pos (ad := ad) (t := 10) g2.1]; try rfl) ?_
  obtain ⟨r3, F3, B3, hc3, hf⟩ := gbind hf
  refine va_calli (va_runV (As := [.int (iI l1)]) (rest := []) ⟨hx, hb, hml, hown, hts⟩ (c_Tokens_isSign (l := l) hc3) (cwV 1 hts (gdV k_3_208 k_3_209 k_3_210 k_1_5 k_3_211) rfl rfl rfl (by decide +kernel) ⟨Nat.le_of_ble_eq_true rfl, Nat.le_of_ble_eq_true rfl⟩) (zPV X hZ hS (ci := 10) g2.1 g2.2 (r := (RX10, TX10, 9)) rfl [.int (iI l1)]) rfl rfl hl.1 rfl (lv_room (Nat.le_of_ble_eq_true rfl)) (D_182 W_prog_5_method_17_code_0 5 rfl rfl rfl) ⟨Nat.le_of_ble_eq_true rfl, Nat.le_of_ble_eq_true rfl⟩) hS (fun q _ h => zAin X hS q h) (zAin X hS) (fun p3 u3 t3 H3 locs3 ht3 hv3 hw3 hB3 hz3 hk3 hS3 => ?_)
  have hZ3 := zBack X ht3 hB3
  subst hw3
  obtain ⟨g4, hf⟩ := gif hf
  refine z0ne (tgt := 17) hx hb g4 (D_154 W_prog_5_method_17_code_0 8 rfl rfl rfl) (by decide) (fun h5 => ?_) (fun h5 => ?_)
  · replace hf := gneg hf h5
    refine lv_aload_n hx hb (D_42 W_prog_5_method_17_code_0 17 rfl rfl) rfl (lv_at hl 0 rfl) ?_
    refine zget (ci := 3) (C := RX3) (T := TX3) (v := .int (iI (F3 3 l0 18))) (k := 18) hx hb hts inW_3 hown hK hZ3 g1.1 g1.2 rfl (by decide) k_1_135 rfl (D_180 W_prog_5_method_17_code_0 18 rfl rfl rfl) ?_
    refine lv_bipush (v := iI 8) hx hb (D_16 W_prog_5_method_17_code_0 21 rfl rfl rfl) (by decide) ?_
    obtain ⟨g6, hf⟩ := gif hf
    refine zlt (tgt := 32) hx hb g6 (by decide) (D_161 W_prog_5_method_17_code_0 23 rfl rfl rfl) (by decide) (fun h7 => ?_) (fun h7 => ?_)
    · replace hf := gpos hf h7
      refine lv_aload_n hx hb (D_42 W_prog_5_method_17_code_32 0 rfl rfl) rfl (lv_at hl 0 rfl) ?_
      refine lv_dup hx hb (D_89 W_prog_5_method_17_code_32 1 rfl rfl) rfl ?_
      refine zget (ci := 3) (C := RX3) (T := TX3) (v := .int (iI (F3 3 l0 18))) (k := 18) hx hb hts inW_3 hown hK hZ3 g1.1 g1.2 rfl (by decide) k_1_135 rfl (D_180 W_prog_5_method_17_code_32 2 rfl rfl rfl) ?_
      refine lv_iconst (v := iI 1) hx hb (D_4 W_prog_5_method_17_code_32 5 rfl rfl) rfl ?_
      refine zadd hx hb (D_96 W_prog_5_method_17_code_32 6 rfl rfl) ?_
      refine zput (ci := 3) (C := RX3) (T := TX3) (k := 18) (v := ((F3 3 l0 18) + 1)) (w := .int (iI ((F3 3 l0 18) + 1))) hx hb hts inW_3 tyX3 tyX3_ok nmX3 hown hK hZ3 hS3 g1.1 g1.2 rfl (by decide) k_1_135 rfl (fun G h => congrArg (fun q => Value.int (iI q)) h) rfl rfl (zno (by decide)) (D_181 W_prog_5_method_17_code_32 7 rfl rfl rfl) (fun H8 locs8 hZ8 hS8 => ?_)
      refine lv_aload_n hx hb (D_42 W_prog_5_method_17_code_32 10 rfl rfl) rfl (lv_at hl 0 rfl) ?_
      refine zget (ci := 3) (C := RX3) (T := TX3) (v := va_rf (zrf ad 10 (F3 3 l0 11))) (k := 11) hx hb hts inW_3 hown hK hZ8 g1.1 g1.2 rfl (by decide) k_1_128 (congrArg (fun q : Int => va_rf (zrf ad 10 q)) (show (zup3 F3 3 l0 18 ((F3 3 l0 18) + 1)) 3 l0 11 = F3 3 l0 11 by simp [zup3])) (D_180 W_prog_5_method_17_code_32 11 rfl rfl rfl) ?_
      obtain ⟨g9, hf⟩ := gif hf
      refine W.eq (g2 := F0 m 46 ls [.ref (ad 10 (F3 3 l0 11) 0)]) (by rw [zrf_pos (ad := ad) (t := 10) g9.1]; try rfl) ?_
      obtain ⟨r10, F10, B10, hc10, hf⟩ := gbind hf
      refine va_callv (va_runV (As := []) (rest := []) ⟨hx, hb, hml, hown, hts⟩ (c_Tokens_advance (l := l) hc10) (cwV 0 hts (gdV k_3_180 k_3_152 k_3_153 k_1_5 k_3_154) rfl rfl rfl (by decide +kernel) ⟨Nat.le_of_ble_eq_true rfl, Nat.le_of_ble_eq_true rfl⟩) (zPV X hZ8 hS8 (ci := 10) g9.1 g9.2 (r := (RX10, TX10, 9)) rfl []) rfl rfl hl.1 rfl (lv_room (Nat.le_of_ble_eq_true rfl)) (D_182 W_prog_5_method_17_code_32 14 rfl rfl rfl) ⟨Nat.le_of_ble_eq_true rfl, Nat.le_of_ble_eq_true rfl⟩) hS8 (fun q _ h => zAin X hS8 q h) (zAin X hS8) (fun u10 t10 H10 locs10 ht10 hv10 hw10 hB10 hz10 hk10 hS10 => ?_)
      have hZ10 := zBack X ht10 hB10
      refine lv_iconst (v := iI 1) hx hb (D_4 W_prog_5_method_17_code_32 17 rfl rfl) rfl ?_
      cases hf
      exact W.zret hx hb hr rfl (fun t ht hW => ⟨⟨_, (), rfl, rfl, by rw [ht]; exact hZ10, va_K.moved hW.alike hK⟩, hS10.F ht⟩) hS10.2.2 (D_172 W_prog_5_method_17_code_32 18 rfl rfl) hlk
    · replace hf := gneg hf h7
      refine lv_aload_n hx hb (D_42 W_prog_5_method_17_code_0 26 rfl rfl) rfl (lv_at hl 0 rfl) ?_
      refine lv_iconst (v := iI 3) hx hb (D_6 W_prog_5_method_17_code_0 27 rfl rfl) rfl ?_
      obtain ⟨r11, F11, B11, hc11, hf⟩ := gbind hf
      refine va_calli (va_runV (As := [.int (iI 3)]) (rest := []) ⟨hx, hb, hml, hown, hts⟩ (c_Parser_refuse (l := l) hc11) (cwV 1 hts (gdV k_3_196 k_3_198 ks_7 k_1_4 k_3_199) rfl rfl rfl (by decide +kernel) ⟨Nat.le_of_ble_eq_true rfl, Nat.le_of_ble_eq_true rfl⟩) (zPV X hZ3 hS3 (ci := 3) g1.1 g1.2 (r := (RX3, TX3, 22)) rfl [.int (iI 3)]) rfl rfl hl.1 rfl (lv_room (Nat.le_of_ble_eq_true rfl)) (D_182 W_prog_5_method_17_code_0 28 rfl rfl rfl) ⟨Nat.le_of_ble_eq_true rfl, Nat.le_of_ble_eq_true rfl⟩) hS3 (fun q _ h => zAin X hS3 q h) (zAin X hS3) (fun p11 u11 t11 H11 locs11 ht11 hv11 hw11 hB11 hz11 hk11 hS11 => ?_)
      have hZ11 := zBack X ht11 hB11
      subst hw11
      obtain ⟨g12, hf⟩ := gif hf
      cases hf
      exact W.zret hx hb hr (zbool g12) (fun t ht hW => ⟨⟨_, (), rfl, rfl, by rw [ht]; exact hZ11, va_K.moved hW.alike hK⟩, hS11.F ht⟩) hS11.2.2 (D_172 W_prog_5_method_17_code_0 31 rfl rfl) hlk
  · replace hf := gpos hf h5
    refine lv_aload_n hx hb (D_42 W_prog_5_method_17_code_0 11 rfl rfl) rfl (lv_at hl 0 rfl) ?_
    refine lv_iconst (v := iI 2) hx hb (D_5 W_prog_5_method_17_code_0 12 rfl rfl) rfl ?_
    obtain ⟨r13, F13, B13, hc13, hf⟩ := gbind hf
    refine va_calli (va_runV (As := [.int (iI 2)]) (rest := []) ⟨hx, hb, hml, hown, hts⟩ (c_Parser_refuse (l := l) hc13) (cwV 1 hts (gdV k_3_196 k_3_198 ks_7 k_1_4 k_3_199) rfl rfl rfl (by decide +kernel) ⟨Nat.le_of_ble_eq_true rfl, Nat.le_of_ble_eq_true rfl⟩) (zPV X hZ3 hS3 (ci := 3) g1.1 g1.2 (r := (RX3, TX3, 22)) rfl [.int (iI 2)]) rfl rfl hl.1 rfl (lv_room (Nat.le_of_ble_eq_true rfl)) (D_182 W_prog_5_method_17_code_0 13 rfl rfl rfl) ⟨Nat.le_of_ble_eq_true rfl, Nat.le_of_ble_eq_true rfl⟩) hS3 (fun q _ h => zAin X hS3 q h) (zAin X hS3) (fun p13 u13 t13 H13 locs13 ht13 hv13 hw13 hB13 hz13 hk13 hS13 => ?_)
    have hZ13 := zBack X ht13 hB13
    subst hw13
    obtain ⟨g14, hf⟩ := gif hf
    cases hf
    exact W.zret hx hb hr (zbool g14) (fun t ht hW => ⟨⟨_, (), rfl, rfl, by rw [ht]; exact hZ13, va_K.moved hW.alike hK⟩, hS13.F ht⟩) hS13.2.2 (D_172 W_prog_5_method_17_code_0 16 rfl rfl) hlk

abbrev Q_Parser_itemSort (K : zK) (D : va_G) (ca : Nat → ClassId) (ad : Nat → Int → Nat → Nat) (L : List Nat) (r : Int) (F : zF) (B : zB) (A : Nat → Prop) : Array Value → State → Outcome → State → Prop := va_Qi (S := Unit) (fun p _ => p = iI r) (fun _ => zPo D ca ad lnC K.2 L F B A) A
def f_Parser_itemSort_124 (K : zK) (s0 : Int) (F : zF) (B : zB) : zO := some (s0, F, B)
set_option maxHeartbeats 4000000 in
set_option maxRecDepth 100000 in
theorem b_Parser_itemSort_124 {D : va_G} {ca : Nat → ClassId} {ad : Nat → Int → Nat → Nat} {L : List Nat} {aS vS : Nat → Nat} {A : Nat → Prop} {p : Program} {l : Launch} {e : Env} {s : State} {m : MethodId} {args : Array Value} {below : List Frame} {meth : Method} {c : Code} {K : zK} {r : Int} {F9 : zF} {B9 : zB} (X : zX D ca L aS vS A p s m args meth c prog_5_method_21_code 2 (Option.some Jvm.ClassFile.FieldType.int) "StaveHouse$Parser") {s0 : Int} {F : zF} {B : zB} {H : Heap} {locs : List Loc} {ls : Array Slot} (hf : f_Parser_itemSort_124 K s0 F B = some (r, F9, B9)) (hZ : zH D ca ad lnC K.2 L F B A H) (hS : va_S A s.heap H locs) (hl : lv_has ls 2 []) : W p l e ({ frames := 1, cells := 0, slots := 0, locals := 23 } : Room) s m args below meth c H locs 0 0 (MQ below (Q_Parser_itemSort K D ca ad L r F9 B9 A) args s 0 0 A) (F0 m 124 ls [.int (iI s0)]) := by
  obtain ⟨hx, hb, hr, hml, hown, hts, hlk, hK, hA, hL, hX⟩ := id X
  replace hf : (some (s0, F, B)) = some (r, F9, B9) := hf
  cases hf
  exact W.iret hx hb hr (fun t ht hW => ⟨⟨_, (), rfl, rfl, by rw [ht]; exact hZ, va_K.moved hW.alike hK⟩, hS.F ht⟩) hS.2.2 (D_172 W_prog_5_method_21_code_96 28 rfl rfl) hlk

def f_Parser_itemSort_77 (K : zK)  (F : zF) (B : zB) : zO := some (0, F, B)
set_option maxHeartbeats 4000000 in
set_option maxRecDepth 100000 in
theorem b_Parser_itemSort_77 {D : va_G} {ca : Nat → ClassId} {ad : Nat → Int → Nat → Nat} {L : List Nat} {aS vS : Nat → Nat} {A : Nat → Prop} {p : Program} {l : Launch} {e : Env} {s : State} {m : MethodId} {args : Array Value} {below : List Frame} {meth : Method} {c : Code} {K : zK} {r : Int} {F9 : zF} {B9 : zB} (X : zX D ca L aS vS A p s m args meth c prog_5_method_21_code 2 (Option.some Jvm.ClassFile.FieldType.int) "StaveHouse$Parser")  {F : zF} {B : zB} {H : Heap} {locs : List Loc} {ls : Array Slot} (hf : f_Parser_itemSort_77 K  F B = some (r, F9, B9)) (hZ : zH D ca ad lnC K.2 L F B A H) (hS : va_S A s.heap H locs) (hl : lv_has ls 2 []) : W p l e ({ frames := 1, cells := 0, slots := 0, locals := 23 } : Room) s m args below meth c H locs 0 0 (MQ below (Q_Parser_itemSort K D ca ad L r F9 B9 A) args s 0 0 A) (F0 m 77 ls []) := by
  obtain ⟨hx, hb, hr, hml, hown, hts, hlk, hK, hA, hL, hX⟩ := id X
  replace hf : (some (0, F, B)) = some (r, F9, B9) := hf
  refine lv_iconst (v := iI 0) hx hb (D_3 W_prog_5_method_21_code_64 13 rfl rfl) rfl ?_
  cases hf
  exact W.iret hx hb hr (fun t ht hW => ⟨⟨_, (), rfl, rfl, by rw [ht]; exact hZ, va_K.moved hW.alike hK⟩, hS.F ht⟩) hS.2.2 (D_172 W_prog_5_method_21_code_64 14 rfl rfl) hlk

def f_Parser_itemSort_53 (K : zK) (s0 : Int) (F : zF) (B : zB) : zO := some (s0, F, B)
set_option maxHeartbeats 4000000 in
set_option maxRecDepth 100000 in
theorem b_Parser_itemSort_53 {D : va_G} {ca : Nat → ClassId} {ad : Nat → Int → Nat → Nat} {L : List Nat} {aS vS : Nat → Nat} {A : Nat → Prop} {p : Program} {l : Launch} {e : Env} {s : State} {m : MethodId} {args : Array Value} {below : List Frame} {meth : Method} {c : Code} {K : zK} {r : Int} {F9 : zF} {B9 : zB} (X : zX D ca L aS vS A p s m args meth c prog_5_method_21_code 2 (Option.some Jvm.ClassFile.FieldType.int) "StaveHouse$Parser") {s0 : Int} {F : zF} {B : zB} {H : Heap} {locs : List Loc} {ls : Array Slot} (hf : f_Parser_itemSort_53 K s0 F B = some (r, F9, B9)) (hZ : zH D ca ad lnC K.2 L F B A H) (hS : va_S A s.heap H locs) (hl : lv_has ls 2 []) : W p l e ({ frames := 1, cells := 0, slots := 0, locals := 23 } : Room) s m args below meth c H locs 0 0 (MQ below (Q_Parser_itemSort K D ca ad L r F9 B9 A) args s 0 0 A) (F0 m 53 ls [.int (iI s0)]) := by
  obtain ⟨hx, hb, hr, hml, hown, hts, hlk, hK, hA, hL, hX⟩ := id X
  replace hf : (some (s0, F, B)) = some (r, F9, B9) := hf
  cases hf
  exact W.iret hx hb hr (fun t ht hW => ⟨⟨_, (), rfl, rfl, by rw [ht]; exact hZ, va_K.moved hW.alike hK⟩, hS.F ht⟩) hS.2.2 (D_172 W_prog_5_method_21_code_32 21 rfl rfl) hlk

def f_Parser_itemSort (K : zK) (l0 : Int) (F : zF) (B : zB) : zO := if 0 ≤ l0 ∧ l0 < K.2 3 then if 0 ≤ (F 3 l0 11) ∧ (F 3 l0 11) < K.2 10 then if r32 (F 10 (F 3 l0 11) 0) then (if (F 10 (F 3 l0 11) 0) = 4 then zbind (f_Parser_indexOf K 2 (F 10 (F 3 l0 11) 2) F B) (fun r21 F21 B21 => if r32 r21 then (if r21 = (-1) then if 0 ≤ (F21 3 l0 11) ∧ (F21 3 l0 11) < K.2 10 then if r64 (F21 10 (F21 3 l0 11) 2) then (if (zcmp (F21 10 (F21 3 l0 11) 2) 114) = 0 then f_Parser_itemSort_53 K 0 F21 B21 else f_Parser_itemSort_53 K (-1) F21 B21) else none else none else some (4 + r21, F21, B21)) else none) else (if (F 10 (F 3 l0 11) 0) = 2 then f_Parser_itemSort_77 K F B else zbind (f_Tokens_isSign K (F 3 l0 11) 60 F B) (fun r6 F6 B6 => if r32 r6 then (if r6 = 0 then if 0 ≤ (F6 3 l0 11) ∧ (F6 3 l0 11) < K.2 10 then zbind (f_Tokens_isSign K (F6 3 l0 11) 124 F6 B6) (fun r10 F10 B10 => if r32 r10 then (if r10 = 0 then if 0 ≤ (F10 3 l0 11) ∧ (F10 3 l0 11) < K.2 10 then zbind (f_Tokens_isSign K (F10 3 l0 11) 33 F10 B10) (fun r14 F14 B14 => if r32 r14 then (if r14 = 0 then if 0 ≤ (F14 3 l0 11) ∧ (F14 3 l0 11) < K.2 10 then zbind (f_Tokens_isSign K (F14 3 l0 11) 91 F14 B14) (fun r18 F18 B18 => if r32 r18 then (if r18 = 0 then f_Parser_itemSort_124 K (-1) F18 B18 else f_Parser_itemSort_124 K 3 F18 B18) else none) else none else some (2, F14, B14)) else none) else none else some (1, F10, B10)) else none) else none else f_Parser_itemSort_77 K F6 B6) else none))) else none else none else none
set_option maxHeartbeats 4000000 in
set_option maxRecDepth 100000 in
theorem c_Parser_itemSort {l : Launch} {D : va_G} {ca : Nat → ClassId} {ad : Nat → Int → Nat → Nat} {L : List Nat} {aS vS : Nat → Nat} {sz : Nat} {K : zK}  {l0 : Int} {F F9 : zF} {B B9 : zB} {r : Int} (hf : f_Parser_itemSort K l0 F B = some (r, F9, B9)) : Met l ({ cls := "StaveHouse$Parser", name := "itemSort", desc := "()I" } : Jvm.MethodName) (Cond.code ({ cls := "StaveHouse$Parser", name := "itemSort", desc := "()I" } : Jvm.MethodName) prog_5_method_21_code 2 (Option.some Jvm.ClassFile.FieldType.int) :: wAll) ({ frames := 1, cells := 0, slots := 0, locals := 23 } : Room) (va_Pc [.ref (ad 3 l0 0)] (zPre D ca ad lnC K.2 L aS vS F B sz)) (Q_Parser_itemSort K D ca ad L r F9 B9 (zA L sz)) 0 0 (zA L sz) := by
  refine zMet (Qc := Q_Parser_itemSort K D ca ad L r F9 B9) (lv := [(0, .ref (ad 3 l0 0))]) (by decide) (Nat.le_of_ble_eq_true rfl) rfl (fun A p e s m below meth c ls X hZ hS hl => ?_)
  obtain ⟨hx, hb, hr, hml, hown, hts, hlk, hK, hA, hL, hX⟩ := id X
  replace hf : (if 0 ≤ l0 ∧ l0 < K.2 3 then if 0 ≤ (F 3 l0 11) ∧ (F 3 l0 11) < K.2 10 then if r32 (F 10 (F 3 l0 11) 0) then (if (F 10 (F 3 l0 11) 0) = 4 then zbind (f_Parser_indexOf K 2 (F 10 (F 3 l0 11) 2) F B) (fun r21 F21 B21 => if r32 r21 then (if r21 = (-1) then if 0 ≤ (F21 3 l0 11) ∧ (F21 3 l0 11) < K.2 10 then if r64 (F21 10 (F21 3 l0 11) 2) then (if (zcmp (F21 10 (F21 3 l0 11) 2) 114) = 0 then f_Parser_itemSort_53 K 0 F21 B21 else f_Parser_itemSort_53 K (-1) F21 B21) else none else none else some (4 + r21, F21, B21)) else none) else (if (F 10 (F 3 l0 11) 0) = 2 then f_Parser_itemSort_77 K F B else zbind (f_Tokens_isSign K (F 3 l0 11) 60 F B) (fun r6 F6 B6 => if r32 r6 then (if r6 = 0 then if 0 ≤ (F6 3 l0 11) ∧ (F6 3 l0 11) < K.2 10 then zbind (f_Tokens_isSign K (F6 3 l0 11) 124 F6 B6) (fun r10 F10 B10 => if r32 r10 then (if r10 = 0 then if 0 ≤ (F10 3 l0 11) ∧ (F10 3 l0 11) < K.2 10 then zbind (f_Tokens_isSign K (F10 3 l0 11) 33 F10 B10) (fun r14 F14 B14 => if r32 r14 then (if r14 = 0 then if 0 ≤ (F14 3 l0 11) ∧ (F14 3 l0 11) < K.2 10 then zbind (f_Tokens_isSign K (F14 3 l0 11) 91 F14 B14) (fun r18 F18 B18 => if r32 r18 then (if r18 = 0 then f_Parser_itemSort_124 K (-1) F18 B18 else f_Parser_itemSort_124 K 3 F18 B18) else none) else none else some (2, F14, B14)) else none) else none else some (1, F10, B10)) else none) else none else f_Parser_itemSort_77 K F6 B6) else none))) else none else none else none) = some (r, F9, B9) := hf
  refine lv_aload_n hx hb (D_42 W_prog_5_method_21_code_0 0 rfl rfl) rfl (lv_at hl 0 rfl) ?_
  obtain ⟨g1, hf⟩ := gif hf
  refine zget (ci := 3) (C := RX3) (T := TX3) (v := va_rf (zrf ad 10 (F 3 l0 11))) (k := 11) hx hb hts inW_3 hown hK hZ g1.1 g1.2 rfl (by decide) k_1_128 rfl (D_180 W_prog_5_method_21_code_0 1 rfl rfl rfl) ?_
  obtain ⟨g2, hf⟩ := gif hf
  refine zunrf g2.1 ?_
  refine zget (ci := 10) (C := RX10) (T := TX10) (v := .int (iI (F 10 (F 3 l0 11) 0))) (k := 0) hx hb hts inW_10 hown hK hZ g2.1 g2.2 rfl (by decide) k_1_72 rfl (D_180 W_prog_5_method_21_code_0 4 rfl rfl rfl) ?_
  refine lv_iconst (v := iI 4) hx hb (D_7 W_prog_5_method_21_code_0 7 rfl rfl) rfl ?_
  obtain ⟨g3, hf⟩ := gif hf
  refine zne (tgt := 54) hx hb g3 (by decide) (D_160 W_prog_5_method_21_code_0 8 rfl rfl rfl) (by decide) (fun h4 => ?_) (fun h4 => ?_)
  · replace hf := gneg hf h4
    refine lv_aload_n hx hb (D_42 W_prog_5_method_21_code_32 22 rfl rfl) rfl (lv_at hl 0 rfl) ?_
    refine zget (ci := 3) (C := RX3) (T := TX3) (v := va_rf (zrf ad 10 (F 3 l0 11))) (k := 11) hx hb hts inW_3 hown hK hZ g1.1 g1.2 rfl (by decide) k_1_128 rfl (D_180 W_prog_5_method_21_code_32 23 rfl rfl rfl) ?_
    refine zunrf g2.1 ?_
    refine zget (ci := 10) (C := RX10) (T := TX10) (v := .int (iI (F 10 (F 3 l0 11) 0))) (k := 0) hx hb hts inW_10 hown hK hZ g2.1 g2.2 rfl (by decide) k_1_72 rfl (D_180 W_prog_5_method_21_code_32 26 rfl rfl rfl) ?_
    refine lv_iconst (v := iI 2) hx hb (D_5 W_prog_5_method_21_code_32 29 rfl rfl) rfl ?_
    refine zeq (tgt := 77) hx hb g3 (by decide) (D_159 W_prog_5_method_21_code_32 30 rfl rfl rfl) (by decide) (fun h5 => ?_) (fun h5 => ?_)
    · replace hf := gpos hf h5
      exact b_Parser_itemSort_77 X hf hZ hS (lv_sub hl [] rfl)
    · replace hf := gneg hf h5
      refine lv_aload_n hx hb (D_42 W_prog_5_method_21_code_64 1 rfl rfl) rfl (lv_at hl 0 rfl) ?_
      refine zget (ci := 3) (C := RX3) (T := TX3) (v := va_rf (zrf ad 10 (F 3 l0 11))) (k := 11) hx hb hts inW_3 hown hK hZ g1.1 g1.2 rfl (by decide) k_1_128 rfl (D_180 W_prog_5_method_21_code_64 2 rfl rfl rfl) ?_
      refine lv_bipush (v := iI 60) hx hb (D_16 W_prog_5_method_21_code_64 5 rfl rfl rfl) (by decide) ?_
      refine W.eq (g2 := F0 m 71 ls [.int (iI 60), .ref (ad 10 (F 3 l0 11) 0)]) (by rw [zrf_pos (ad := ad) (t := 10) g2.1]; try rfl) ?_
      obtain ⟨r6, F6, B6, hc6, hf⟩ := gbind hf
      refine va_calli (va_runV (As := [.int (iI 60)]) (rest := []) ⟨hx, hb, hml, hown, hts⟩ (c_Tokens_isSign (l := l) hc6) (cwV 1 hts (gdV k_3_208 k_3_209 k_3_210 k_1_5 k_3_211) rfl rfl rfl (by decide +kernel) ⟨Nat.le_of_ble_eq_true rfl, Nat.le_of_ble_eq_true rfl⟩) (zPV X hZ hS (ci := 10) g2.1 g2.2 (r := (RX10, TX10, 9)) rfl [.int (iI 60)]) rfl rfl hl.1 rfl (lv_room (Nat.le_of_ble_eq_true rfl)) (D_182 W_prog_5_method_21_code_64 7 rfl rfl rfl) ⟨Nat.le_of_ble_eq_true rfl, Nat.le_of_ble_eq_true rfl⟩) hS (fun q _ h => zAin X hS q h) (zAin X hS) (fun p6 u6 t6 H6 locs6 ht6 hv6 hw6 hB6 hz6 hk6 hS6 => ?_)
      have hZ6 := zBack X ht6 hB6
      subst hw6
      obtain ⟨g7, hf⟩ := gif hf
      refine z0eq (tgt := 79) hx hb g7 (D_153 W_prog_5_method_21_code_64 10 rfl rfl rfl) (by decide) (fun h8 => ?_) (fun h8 => ?_)
      · replace hf := gpos hf h8
        refine lv_aload_n hx hb (D_42 W_prog_5_method_21_code_64 15 rfl rfl) rfl (lv_at hl 0 rfl) ?_
        refine zget (ci := 3) (C := RX3) (T := TX3) (v := va_rf (zrf ad 10 (F6 3 l0 11))) (k := 11) hx hb hts inW_3 hown hK hZ6 g1.1 g1.2 rfl (by decide) k_1_128 rfl (D_180 W_prog_5_method_21_code_64 16 rfl rfl rfl) ?_
        refine lv_bipush (v := iI 124) hx hb (D_16 W_prog_5_method_21_code_64 19 rfl rfl rfl) (by decide) ?_
        obtain ⟨g9, hf⟩ := gif hf
        refine W.eq (g2 := F0 m 85 ls [.int (iI 124), .ref (ad 10 (F6 3 l0 11) 0)]) (by rw [zrf_pos (ad := ad) (t := 10) g9.1]; try rfl) ?_
        obtain ⟨r10, F10, B10, hc10, hf⟩ := gbind hf
        refine va_calli (va_runV (As := [.int (iI 124)]) (rest := []) ⟨hx, hb, hml, hown, hts⟩ (c_Tokens_isSign (l := l) hc10) (cwV 1 hts (gdV k_3_208 k_3_209 k_3_210 k_1_5 k_3_211) rfl rfl rfl (by decide +kernel) ⟨Nat.le_of_ble_eq_true rfl, Nat.le_of_ble_eq_true rfl⟩) (zPV X hZ6 hS6 (ci := 10) g9.1 g9.2 (r := (RX10, TX10, 9)) rfl [.int (iI 124)]) rfl rfl hl.1 rfl (lv_room (Nat.le_of_ble_eq_true rfl)) (D_182 W_prog_5_method_21_code_64 21 rfl rfl rfl) ⟨Nat.le_of_ble_eq_true rfl, Nat.le_of_ble_eq_true rfl⟩) hS6 (fun q _ h => zAin X hS6 q h) (zAin X hS6) (fun p10 u10 t10 H10 locs10 ht10 hv10 hw10 hB10 hz10 hk10 hS10 => ?_)
        have hZ10 := zBack X ht10 hB10
        subst hw10
        obtain ⟨g11, hf⟩ := gif hf
        refine z0eq (tgt := 93) hx hb g11 (D_153 W_prog_5_method_21_code_64 24 rfl rfl rfl) (by decide) (fun h12 => ?_) (fun h12 => ?_)
        · replace hf := gpos hf h12
          refine lv_aload_n hx hb (D_42 W_prog_5_method_21_code_64 29 rfl rfl) rfl (lv_at hl 0 rfl) ?_
          refine zget (ci := 3) (C := RX3) (T := TX3) (v := va_rf (zrf ad 10 (F10 3 l0 11))) (k := 11) hx hb hts inW_3 hown hK hZ10 g1.1 g1.2 rfl (by decide) k_1_128 rfl (D_180 W_prog_5_method_21_code_64 30 rfl rfl rfl) ?_
          refine lv_bipush (v := iI 33) hx hb (D_16 W_prog_5_method_21_code_96 1 rfl rfl rfl) (by decide) ?_
          obtain ⟨g13, hf⟩ := gif hf
          refine W.eq (g2 := F0 m 99 ls [.int (iI 33), .ref (ad 10 (F10 3 l0 11) 0)]) (by rw [zrf_pos (ad := ad) (t := 10) g13.1]; try rfl) ?_
          obtain ⟨r14, F14, B14, hc14, hf⟩ := gbind hf
          refine va_calli (va_runV (As := [.int (iI 33)]) (rest := []) ⟨hx, hb, hml, hown, hts⟩ (c_Tokens_isSign (l := l) hc14) (cwV 1 hts (gdV k_3_208 k_3_209 k_3_210 k_1_5 k_3_211) rfl rfl rfl (by decide +kernel) ⟨Nat.le_of_ble_eq_true rfl, Nat.le_of_ble_eq_true rfl⟩) (zPV X hZ10 hS10 (ci := 10) g13.1 g13.2 (r := (RX10, TX10, 9)) rfl [.int (iI 33)]) rfl rfl hl.1 rfl (lv_room (Nat.le_of_ble_eq_true rfl)) (D_182 W_prog_5_method_21_code_96 3 rfl rfl rfl) ⟨Nat.le_of_ble_eq_true rfl, Nat.le_of_ble_eq_true rfl⟩) hS10 (fun q _ h => zAin X hS10 q h) (zAin X hS10) (fun p14 u14 t14 H14 locs14 ht14 hv14 hw14 hB14 hz14 hk14 hS14 => ?_)
          have hZ14 := zBack X ht14 hB14
          subst hw14
          obtain ⟨g15, hf⟩ := gif hf
          refine z0eq (tgt := 107) hx hb g15 (D_153 W_prog_5_method_21_code_96 6 rfl rfl rfl) (by decide) (fun h16 => ?_) (fun h16 => ?_)
          · replace hf := gpos hf h16
            refine lv_aload_n hx hb (D_42 W_prog_5_method_21_code_96 11 rfl rfl) rfl (lv_at hl 0 rfl) ?_
            refine zget (ci := 3) (C := RX3) (T := TX3) (v := va_rf (zrf ad 10 (F14 3 l0 11))) (k := 11) hx hb hts inW_3 hown hK hZ14 g1.1 g1.2 rfl (by decide) k_1_128 rfl (D_180 W_prog_5_method_21_code_96 12 rfl rfl rfl) ?_
            refine lv_bipush (v := iI 91) hx hb (D_16 W_prog_5_method_21_code_96 15 rfl rfl rfl) (by decide) ?_
            obtain ⟨g17, hf⟩ := gif hf
            refine W.eq (g2 := F0 m 113 ls [.int (iI 91), .ref (ad 10 (F14 3 l0 11) 0)]) (by rw [zrf_pos (ad := ad) (t := 10) g17.1]; try rfl) ?_
            obtain ⟨r18, F18, B18, hc18, hf⟩ := gbind hf
            refine va_calli (va_runV (As := [.int (iI 91)]) (rest := []) ⟨hx, hb, hml, hown, hts⟩ (c_Tokens_isSign (l := l) hc18) (cwV 1 hts (gdV k_3_208 k_3_209 k_3_210 k_1_5 k_3_211) rfl rfl rfl (by decide +kernel) ⟨Nat.le_of_ble_eq_true rfl, Nat.le_of_ble_eq_true rfl⟩) (zPV X hZ14 hS14 (ci := 10) g17.1 g17.2 (r := (RX10, TX10, 9)) rfl [.int (iI 91)]) rfl rfl hl.1 rfl (lv_room (Nat.le_of_ble_eq_true rfl)) (D_182 W_prog_5_method_21_code_96 17 rfl rfl rfl) ⟨Nat.le_of_ble_eq_true rfl, Nat.le_of_ble_eq_true rfl⟩) hS14 (fun q _ h => zAin X hS14 q h) (zAin X hS14) (fun p18 u18 t18 H18 locs18 ht18 hv18 hw18 hB18 hz18 hk18 hS18 => ?_)
            have hZ18 := zBack X ht18 hB18
            subst hw18
            obtain ⟨g19, hf⟩ := gif hf
            refine z0eq (tgt := 123) hx hb g19 (D_153 W_prog_5_method_21_code_96 20 rfl rfl rfl) (by decide) (fun h20 => ?_) (fun h20 => ?_)
            · replace hf := gpos hf h20
              refine lv_iconst (v := iI (-1)) hx hb (D_2 W_prog_5_method_21_code_96 27 rfl rfl) rfl ?_
              exact b_Parser_itemSort_124 X hf hZ18 hS18 (lv_sub hl [] rfl)
            · replace hf := gneg hf h20
              refine lv_iconst (v := iI 3) hx hb (D_6 W_prog_5_method_21_code_96 23 rfl rfl) rfl ?_
              refine lv_goto (tgt := 124) hx hb (D_167 W_prog_5_method_21_code_96 24 rfl rfl rfl) (by decide) ?_
              exact b_Parser_itemSort_124 X hf hZ18 hS18 (lv_sub hl [] rfl)
          · replace hf := gneg hf h16
            refine lv_iconst (v := iI 2) hx hb (D_5 W_prog_5_method_21_code_96 9 rfl rfl) rfl ?_
            cases hf
            exact W.iret hx hb hr (fun t ht hW => ⟨⟨_, (), rfl, rfl, by rw [ht]; exact hZ14, va_K.moved hW.alike hK⟩, hS14.F ht⟩) hS14.2.2 (D_172 W_prog_5_method_21_code_96 10 rfl rfl) hlk
        · replace hf := gneg hf h12
          refine lv_iconst (v := iI 1) hx hb (D_4 W_prog_5_method_21_code_64 27 rfl rfl) rfl ?_
          cases hf
          exact W.iret hx hb hr (fun t ht hW => ⟨⟨_, (), rfl, rfl, by rw [ht]; exact hZ10, va_K.moved hW.alike hK⟩, hS10.F ht⟩) hS10.2.2 (D_172 W_prog_5_method_21_code_64 28 rfl rfl) hlk
      · replace hf := gneg hf h8
        exact b_Parser_itemSort_77 X hf hZ6 hS6 (lv_sub hl [] rfl)
  · replace hf := gpos hf h4
    refine va_gets hx hb (hX.2.2.2.2.2.2 2 _ rfl).1 hS hown (hts _ k_3_192) (fun _ h => h) (D_178 W_prog_5_method_21_code_0 11 rfl rfl rfl) ?_
    refine W.eq (g2 := F0 m 14 ls [.ref (vS (1000 + 2))]) rfl ?_
    refine lv_aload_n hx hb (D_42 W_prog_5_method_21_code_0 14 rfl rfl) rfl (lv_at hl 0 rfl) ?_
    refine zget (ci := 3) (C := RX3) (T := TX3) (v := va_rf (zrf ad 10 (F 3 l0 11))) (k := 11) hx hb hts inW_3 hown hK hZ g1.1 g1.2 rfl (by decide) k_1_128 rfl (D_180 W_prog_5_method_21_code_0 15 rfl rfl rfl) ?_
    refine zunrf g2.1 ?_
    refine zget (ci := 10) (C := RX10) (T := TX10) (v := .long (lI (F 10 (F 3 l0 11) 2))) (k := 2) hx hb hts inW_10 hown hK hZ g2.1 g2.2 rfl (by decide) k_1_77 rfl (D_180 W_prog_5_method_21_code_0 18 rfl rfl rfl) ?_
    obtain ⟨r21, F21, B21, hc21, hf⟩ := gbind hf
    refine va_calli (va_runS (As := [.ref (vS (1000 + 2)), .long (lI (F 10 (F 3 l0 11) 2))]) (rest := []) ⟨hx, hb, hml, hown, hts⟩ (c_Parser_indexOf (l := l) hc21) (va_cwS 2 hts (gdS k_3_187 k_3_188 k_1_4 k_3_189) rfl rfl rfl (by decide +kernel) ⟨Nat.le_of_ble_eq_true rfl, Nat.le_of_ble_eq_true rfl⟩) (zPS X hZ hS [.ref (vS (1000 + 2)), .long (lI (F 10 (F 3 l0 11) 2))]) rfl rfl hl.1 rfl (lv_room (Nat.le_of_ble_eq_true rfl)) (D_184 W_prog_5_method_21_code_0 21 rfl rfl rfl) ⟨Nat.le_of_ble_eq_true rfl, Nat.le_of_ble_eq_true rfl⟩) hS (fun q _ h => zAin X hS q h) (zAin X hS) (fun p21 u21 t21 H21 locs21 ht21 hv21 hw21 hB21 hz21 hk21 hS21 => ?_)
    have hZ21 := zBack X ht21 hB21
    subst hw21
    refine lv_istore_n (lv' := [(1, .int (iI r21)), (0, .ref (ad 3 l0 0))]) hx hb (D_60 W_prog_5_method_21_code_0 24 rfl rfl) rfl hl (by decide) rfl (fun ls hl => ?_)
    refine lv_iload_n hx hb (D_27 W_prog_5_method_21_code_0 25 rfl rfl) rfl (lv_at hl 0 rfl) ?_
    refine lv_iconst (v := iI (-1)) hx hb (D_2 W_prog_5_method_21_code_0 26 rfl rfl) rfl ?_
    obtain ⟨g22, hf⟩ := gif hf
    refine zeq (tgt := 34) hx hb g22 (by decide) (D_159 W_prog_5_method_21_code_0 27 rfl rfl rfl) (by decide) (fun h23 => ?_) (fun h23 => ?_)
    · replace hf := gpos hf h23
      refine lv_aload_n hx hb (D_42 W_prog_5_method_21_code_32 2 rfl rfl) rfl (lv_at hl 1 rfl) ?_
      refine zget (ci := 3) (C := RX3) (T := TX3) (v := va_rf (zrf ad 10 (F21 3 l0 11))) (k := 11) hx hb hts inW_3 hown hK hZ21 g1.1 g1.2 rfl (by decide) k_1_128 rfl (D_180 W_prog_5_method_21_code_32 3 rfl rfl rfl) ?_
      obtain ⟨g24, hf⟩ := gif hf
      refine zunrf g24.1 ?_
      refine zget (ci := 10) (C := RX10) (T := TX10) (v := .long (lI (F21 10 (F21 3 l0 11) 2))) (k := 2) hx hb hts inW_10 hown hK hZ21 g24.1 g24.2 rfl (by decide) k_1_77 rfl (D_180 W_prog_5_method_21_code_32 6 rfl rfl rfl) ?_
      refine lv_ldc2 hx hb hown (hts _ k_3_228) (D_20 W_prog_5_method_21_code_32 9 rfl rfl rfl) ?_
      refine W.eq (g2 := F0 m 44 ls [.long (lI 114), .long (lI (F21 10 (F21 3 l0 11) 2))]) rfl ?_
      obtain ⟨g25, hf⟩ := gif hf
      refine zcmp_r hx hb g25 (by decide) (D_148 W_prog_5_method_21_code_32 12 rfl rfl) ?_
      refine z0ne (tgt := 52) hx hb zcmp_32 (D_154 W_prog_5_method_21_code_32 13 rfl rfl rfl) (by decide) (fun h26 => ?_) (fun h26 => ?_)
      · replace hf := gneg hf h26
        refine lv_iconst (v := iI (-1)) hx hb (D_2 W_prog_5_method_21_code_32 20 rfl rfl) rfl ?_
        exact b_Parser_itemSort_53 X hf hZ21 hS21 (lv_sub hl [] rfl)
      · replace hf := gpos hf h26
        refine lv_iconst (v := iI 0) hx hb (D_3 W_prog_5_method_21_code_32 16 rfl rfl) rfl ?_
        refine lv_goto (tgt := 53) hx hb (D_167 W_prog_5_method_21_code_32 17 rfl rfl rfl) (by decide) ?_
        exact b_Parser_itemSort_53 X hf hZ21 hS21 (lv_sub hl [] rfl)
    · replace hf := gneg hf h23
      refine lv_iconst (v := iI 4) hx hb (D_7 W_prog_5_method_21_code_0 30 rfl rfl) rfl ?_
      refine lv_iload_n hx hb (D_27 W_prog_5_method_21_code_0 31 rfl rfl) rfl (lv_at hl 0 rfl) ?_
      refine zadd hx hb (D_96 W_prog_5_method_21_code_32 0 rfl rfl) ?_
      cases hf
      exact W.iret hx hb hr (fun t ht hW => ⟨⟨_, (), rfl, rfl, by rw [ht]; exact hZ21, va_K.moved hW.alike hK⟩, hS21.F ht⟩) hS21.2.2 (D_172 W_prog_5_method_21_code_32 1 rfl rfl) hlk

abbrev Q_Parser_takePitch (K : zK) (D : va_G) (ca : Nat → ClassId) (ad : Nat → Int → Nat → Nat) (L : List Nat) (r : Int) (F : zF) (B : zB) (A : Nat → Prop) : Array Value → State → Outcome → State → Prop := va_Qv (S := Unit) (fun _ => True) (fun _ => zPo D ca ad lnC K.2 L F B A) A
def f_Parser_takePitch_80 (K : zK) (l0 : Int) (F : zF) (B : zB) : zO := if 0 ≤ l0 ∧ l0 < K.2 3 then if 0 ≤ (F 3 l0 11) ∧ (F 3 l0 11) < K.2 10 then zbind (f_Tokens_advance K (F 3 l0 11) F B) (fun r14 F14 B14 => some (0, F14, B14)) else none else none
set_option maxHeartbeats 4000000 in
set_option maxRecDepth 100000 in
theorem b_Parser_takePitch_80 {D : va_G} {ca : Nat → ClassId} {ad : Nat → Int → Nat → Nat} {L : List Nat} {aS vS : Nat → Nat} {A : Nat → Prop} {p : Program} {l : Launch} {e : Env} {s : State} {m : MethodId} {args : Array Value} {below : List Frame} {meth : Method} {c : Code} {K : zK} {r : Int} {F9 : zF} {B9 : zB} (X : zX D ca L aS vS A p s m args meth c prog_5_method_24_code 2 (Option.none : Option Jvm.ClassFile.FieldType) "StaveHouse$Parser") {l0 : Int} {F : zF} {B : zB} {H : Heap} {locs : List Loc} {ls : Array Slot} (hf : f_Parser_takePitch_80 K l0 F B = some (r, F9, B9)) (hZ : zH D ca ad lnC K.2 L F B A H) (hS : va_S A s.heap H locs) (hl : lv_has ls 2 [(0, .ref (ad 3 l0 0))]) : W p l e ({ frames := 1, cells := 0, slots := 0, locals := 20 } : Room) s m args below meth c H locs 0 0 (MQ below (Q_Parser_takePitch K D ca ad L r F9 B9 A) args s 0 0 A) (F0 m 80 ls []) := by
  obtain ⟨hx, hb, hr, hml, hown, hts, hlk, hK, hA, hL, hX⟩ := id X
  replace hf : (if 0 ≤ l0 ∧ l0 < K.2 3 then if 0 ≤ (F 3 l0 11) ∧ (F 3 l0 11) < K.2 10 then zbind (f_Tokens_advance K (F 3 l0 11) F B) (fun r14 F14 B14 => some (0, F14, B14)) else none else none) = some (r, F9, B9) := hf
  refine lv_aload_n hx hb (D_42 W_prog_5_method_24_code_64 16 rfl rfl) rfl (lv_at hl 0 rfl) ?_
  obtain ⟨g12, hf⟩ := gif hf
  refine zget (ci := 3) (C := RX3) (T := TX3) (v := va_rf (zrf ad 10 (F 3 l0 11))) (k := 11) hx hb hts inW_3 hown hK hZ g12.1 g12.2 rfl (by decide) k_1_128 rfl (D_180 W_prog_5_method_24_code_64 17 rfl rfl rfl) ?_
  obtain ⟨g13, hf⟩ := gif hf
  refine W.eq (g2 := F0 m 84 ls [.ref (ad 10 (F 3 l0 11) 0)]) (by rw [zrf_pos (ad := ad) (t := 10) g13.1]; try rfl) ?_
  obtain ⟨r14, F14, B14, hc14, hf⟩ := gbind hf
  refine va_callv (va_runV (As := []) (rest := []) ⟨hx, hb, hml, hown, hts⟩ (c_Tokens_advance (l := l) hc14) (cwV 0 hts (gdV k_3_180 k_3_152 k_3_153 k_1_5 k_3_154) rfl rfl rfl (by decide +kernel) ⟨Nat.le_of_ble_eq_true rfl, Nat.le_of_ble_eq_true rfl⟩) (zPV X hZ hS (ci := 10) g13.1 g13.2 (r := (RX10, TX10, 9)) rfl []) rfl rfl hl.1 rfl (lv_room (Nat.le_of_ble_eq_true rfl)) (D_182 W_prog_5_method_24_code_64 20 rfl rfl rfl) ⟨Nat.le_of_ble_eq_true rfl, Nat.le_of_ble_eq_true rfl⟩) hS (fun q _ h => zAin X hS q h) (zAin X hS) (fun u14 t14 H14 locs14 ht14 hv14 hw14 hB14 hz14 hk14 hS14 => ?_)
  have hZ14 := zBack X ht14 hB14
  cases hf
  exact W.vret hx hb hr (fun t ht hW => ⟨⟨(), rfl, trivial, by rw [ht]; exact hZ14, va_K.moved hW.alike hK⟩, hS14.F ht⟩) hS14.2.2 (D_177 W_prog_5_method_24_code_64 23 rfl rfl) hlk

def f_Parser_takePitch (K : zK) (l0 : Int) (l1 : Int) (F : zF) (B : zB) : zO := if 0 ≤ l0 ∧ l0 < K.2 3 then if r32 (F 3 l0 15) then (if 1500 ≤ (F 3 l0 15) then f_Parser_takePitch_80 K l0 F B else if 0 ≤ (F 3 l0 11) ∧ (F 3 l0 11) < K.2 10 then if 0 ≤ (F 3 l0 15) ∧ (F 3 l0 15) < 1500 then if 0 ≤ l1 ∧ l1 < 3000 then f_Parser_takePitch_80 K l0 (zup3 F 3 l0 15 ((F 3 l0 15) + 1)) (zup4 (zup4 (zup4 (zup4 B 3 l0 8 (F 3 l0 15) (F 10 (F 3 l0 11) 3)) 3 l0 9 (F 3 l0 15) (F 10 (F 3 l0 11) 4)) 3 l0 10 (F 3 l0 15) (F 10 (F 3 l0 11) 1)) 3 l0 6 l1 (((zup4 (zup4 (zup4 B 3 l0 8 (F 3 l0 15) (F 10 (F 3 l0 11) 3)) 3 l0 9 (F 3 l0 15) (F 10 (F 3 l0 11) 4)) 3 l0 10 (F 3 l0 15) (F 10 (F 3 l0 11) 1)) 3 l0 6 l1) + 1)) else none else none else none) else none else none
set_option maxHeartbeats 4000000 in
set_option maxRecDepth 100000 in
theorem c_Parser_takePitch {l : Launch} {D : va_G} {ca : Nat → ClassId} {ad : Nat → Int → Nat → Nat} {L : List Nat} {aS vS : Nat → Nat} {sz : Nat} {K : zK}  {l0 : Int} {l1 : Int} {F F9 : zF} {B B9 : zB} {r : Int} (hf : f_Parser_takePitch K l0 l1 F B = some (r, F9, B9)) : Met l ({ cls := "StaveHouse$Parser", name := "takePitch", desc := "(I)V" } : Jvm.MethodName) (Cond.code ({ cls := "StaveHouse$Parser", name := "takePitch", desc := "(I)V" } : Jvm.MethodName) prog_5_method_24_code 2 (Option.none : Option Jvm.ClassFile.FieldType) :: wAll) ({ frames := 1, cells := 0, slots := 0, locals := 20 } : Room) (va_Pc [.ref (ad 3 l0 0), .int (iI l1)] (zPre D ca ad lnC K.2 L aS vS F B sz)) (Q_Parser_takePitch K D ca ad L r F9 B9 (zA L sz)) 0 0 (zA L sz) := by
  refine zMet (Qc := Q_Parser_takePitch K D ca ad L r F9 B9) (lv := [(0, .ref (ad 3 l0 0)), (1, .int (iI l1))]) (by decide) (Nat.le_of_ble_eq_true rfl) rfl (fun A p e s m below meth c ls X hZ hS hl => ?_)
  obtain ⟨hx, hb, hr, hml, hown, hts, hlk, hK, hA, hL, hX⟩ := id X
  replace hf : (if 0 ≤ l0 ∧ l0 < K.2 3 then if r32 (F 3 l0 15) then (if 1500 ≤ (F 3 l0 15) then f_Parser_takePitch_80 K l0 F B else if 0 ≤ (F 3 l0 11) ∧ (F 3 l0 11) < K.2 10 then if 0 ≤ (F 3 l0 15) ∧ (F 3 l0 15) < 1500 then if 0 ≤ l1 ∧ l1 < 3000 then f_Parser_takePitch_80 K l0 (zup3 F 3 l0 15 ((F 3 l0 15) + 1)) (zup4 (zup4 (zup4 (zup4 B 3 l0 8 (F 3 l0 15) (F 10 (F 3 l0 11) 3)) 3 l0 9 (F 3 l0 15) (F 10 (F 3 l0 11) 4)) 3 l0 10 (F 3 l0 15) (F 10 (F 3 l0 11) 1)) 3 l0 6 l1 (((zup4 (zup4 (zup4 B 3 l0 8 (F 3 l0 15) (F 10 (F 3 l0 11) 3)) 3 l0 9 (F 3 l0 15) (F 10 (F 3 l0 11) 4)) 3 l0 10 (F 3 l0 15) (F 10 (F 3 l0 11) 1)) 3 l0 6 l1) + 1)) else none else none else none) else none else none) = some (r, F9, B9) := hf
  refine lv_aload_n hx hb (D_42 W_prog_5_method_24_code_0 0 rfl rfl) rfl (lv_at hl 0 rfl) ?_
  obtain ⟨g1, hf⟩ := gif hf
  refine zget (ci := 3) (C := RX3) (T := TX3) (v := .int (iI (F 3 l0 15))) (k := 15) hx hb hts inW_3 hown hK hZ g1.1 g1.2 rfl (by decide) k_1_132 rfl (D_180 W_prog_5_method_24_code_0 1 rfl rfl rfl) ?_
  refine lv_aload_n hx hb (D_42 W_prog_5_method_24_code_0 4 rfl rfl) rfl (lv_at hl 0 rfl) ?_
  refine zget (ci := 3) (C := RX3) (T := TX3) (v := .ref (ad 3 l0 (8 + 1))) (k := 8) hx hb hts inW_3 hown hK hZ g1.1 g1.2 rfl (by decide) k_1_122 rfl (D_180 W_prog_5_method_24_code_0 5 rfl rfl rfl) ?_
  refine zlen (t := 0) (x := 0) (ci := 3) (k := 8) hx hb hK rfl (fun _ _ => ⟨_, rfl⟩) hZ g1.1 g1.2 rfl (D_190 W_prog_5_method_24_code_0 8 rfl rfl) ?_
  refine W.eq (g2 := F0 m 9 ls [.int (iI 1500), .int (iI (F 3 l0 15))]) rfl ?_
  obtain ⟨g2, hf⟩ := gif hf
  refine zge (tgt := 80) hx hb g2 (by decide) (D_162 W_prog_5_method_24_code_0 9 rfl rfl rfl) (by decide) (fun h3 => ?_) (fun h3 => ?_)
  · replace hf := gpos hf h3
    exact b_Parser_takePitch_80 X hf hZ hS (lv_sub hl [0] rfl)
  · replace hf := gneg hf h3
    refine lv_aload_n hx hb (D_42 W_prog_5_method_24_code_0 12 rfl rfl) rfl (lv_at hl 0 rfl) ?_
    refine zget (ci := 3) (C := RX3) (T := TX3) (v := .ref (ad 3 l0 (8 + 1))) (k := 8) hx hb hts inW_3 hown hK hZ g1.1 g1.2 rfl (by decide) k_1_122 rfl (D_180 W_prog_5_method_24_code_0 13 rfl rfl rfl) ?_
    refine lv_aload_n hx hb (D_42 W_prog_5_method_24_code_0 16 rfl rfl) rfl (lv_at hl 0 rfl) ?_
    refine zget (ci := 3) (C := RX3) (T := TX3) (v := .int (iI (F 3 l0 15))) (k := 15) hx hb hts inW_3 hown hK hZ g1.1 g1.2 rfl (by decide) k_1_132 rfl (D_180 W_prog_5_method_24_code_0 17 rfl rfl rfl) ?_
    refine lv_aload_n hx hb (D_42 W_prog_5_method_24_code_0 20 rfl rfl) rfl (lv_at hl 0 rfl) ?_
    refine zget (ci := 3) (C := RX3) (T := TX3) (v := va_rf (zrf ad 10 (F 3 l0 11))) (k := 11) hx hb hts inW_3 hown hK hZ g1.1 g1.2 rfl (by decide) k_1_128 rfl (D_180 W_prog_5_method_24_code_0 21 rfl rfl rfl) ?_
    obtain ⟨g4, hf⟩ := gif hf
    refine zunrf g4.1 ?_
    refine zget (ci := 10) (C := RX10) (T := TX10) (v := .int (iI (F 10 (F 3 l0 11) 3))) (k := 3) hx hb hts inW_10 hown hK hZ g4.1 g4.2 rfl (by decide) k_1_79 rfl (D_180 W_prog_5_method_24_code_0 24 rfl rfl rfl) ?_
    obtain ⟨g5, hf⟩ := gif hf
    refine zast (ci := 3) (k := 8) hx hb hK rfl hZ hS g1.1 g1.2 rfl (Nat.le_of_ble_eq_true rfl) g5.1 g5.2 (D_79 W_prog_5_method_24_code_0 27 rfl rfl) (fun H6 locs6 hZ6 hS6 => ?_)
    refine lv_aload_n hx hb (D_42 W_prog_5_method_24_code_0 28 rfl rfl) rfl (lv_at hl 0 rfl) ?_
    refine zget (ci := 3) (C := RX3) (T := TX3) (v := .ref (ad 3 l0 (9 + 1))) (k := 9) hx hb hts inW_3 hown hK hZ6 g1.1 g1.2 rfl (by decide) k_1_124 rfl (D_180 W_prog_5_method_24_code_0 29 rfl rfl rfl) ?_
    refine lv_aload_n hx hb (D_42 W_prog_5_method_24_code_32 0 rfl rfl) rfl (lv_at hl 0 rfl) ?_
    refine zget (ci := 3) (C := RX3) (T := TX3) (v := .int (iI (F 3 l0 15))) (k := 15) hx hb hts inW_3 hown hK hZ6 g1.1 g1.2 rfl (by decide) k_1_132 rfl (D_180 W_prog_5_method_24_code_32 1 rfl rfl rfl) ?_
    refine lv_aload_n hx hb (D_42 W_prog_5_method_24_code_32 4 rfl rfl) rfl (lv_at hl 0 rfl) ?_
    refine zget (ci := 3) (C := RX3) (T := TX3) (v := va_rf (zrf ad 10 (F 3 l0 11))) (k := 11) hx hb hts inW_3 hown hK hZ6 g1.1 g1.2 rfl (by decide) k_1_128 rfl (D_180 W_prog_5_method_24_code_32 5 rfl rfl rfl) ?_
    refine zunrf g4.1 ?_
    refine zget (ci := 10) (C := RX10) (T := TX10) (v := .int (iI (F 10 (F 3 l0 11) 4))) (k := 4) hx hb hts inW_10 hown hK hZ6 g4.1 g4.2 rfl (by decide) k_1_81 rfl (D_180 W_prog_5_method_24_code_32 8 rfl rfl rfl) ?_
    refine zast (ci := 3) (k := 9) hx hb hK rfl hZ6 hS6 g1.1 g1.2 rfl (Nat.le_of_ble_eq_true rfl) g5.1 g5.2 (D_79 W_prog_5_method_24_code_32 11 rfl rfl) (fun H7 locs7 hZ7 hS7 => ?_)
    refine lv_aload_n hx hb (D_42 W_prog_5_method_24_code_32 12 rfl rfl) rfl (lv_at hl 0 rfl) ?_
    refine zget (ci := 3) (C := RX3) (T := TX3) (v := .ref (ad 3 l0 (10 + 1))) (k := 10) hx hb hts inW_3 hown hK hZ7 g1.1 g1.2 rfl (by decide) k_1_126 rfl (D_180 W_prog_5_method_24_code_32 13 rfl rfl rfl) ?_
    refine lv_aload_n hx hb (D_42 W_prog_5_method_24_code_32 16 rfl rfl) rfl (lv_at hl 0 rfl) ?_
    refine zget (ci := 3) (C := RX3) (T := TX3) (v := .int (iI (F 3 l0 15))) (k := 15) hx hb hts inW_3 hown hK hZ7 g1.1 g1.2 rfl (by decide) k_1_132 rfl (D_180 W_prog_5_method_24_code_32 17 rfl rfl rfl) ?_
    refine lv_aload_n hx hb (D_42 W_prog_5_method_24_code_32 20 rfl rfl) rfl (lv_at hl 0 rfl) ?_
    refine zget (ci := 3) (C := RX3) (T := TX3) (v := va_rf (zrf ad 10 (F 3 l0 11))) (k := 11) hx hb hts inW_3 hown hK hZ7 g1.1 g1.2 rfl (by decide) k_1_128 rfl (D_180 W_prog_5_method_24_code_32 21 rfl rfl rfl) ?_
    refine zunrf g4.1 ?_
    refine zget (ci := 10) (C := RX10) (T := TX10) (v := .int (iI (F 10 (F 3 l0 11) 1))) (k := 1) hx hb hts inW_10 hown hK hZ7 g4.1 g4.2 rfl (by decide) k_1_75 rfl (D_180 W_prog_5_method_24_code_32 24 rfl rfl rfl) ?_
    refine zast (ci := 3) (k := 10) hx hb hK rfl hZ7 hS7 g1.1 g1.2 rfl (Nat.le_of_ble_eq_true rfl) g5.1 g5.2 (D_79 W_prog_5_method_24_code_32 27 rfl rfl) (fun H8 locs8 hZ8 hS8 => ?_)
    refine lv_aload_n hx hb (D_42 W_prog_5_method_24_code_32 28 rfl rfl) rfl (lv_at hl 0 rfl) ?_
    refine lv_dup hx hb (D_89 W_prog_5_method_24_code_32 29 rfl rfl) rfl ?_
    refine zget (ci := 3) (C := RX3) (T := TX3) (v := .int (iI (F 3 l0 15))) (k := 15) hx hb hts inW_3 hown hK hZ8 g1.1 g1.2 rfl (by decide) k_1_132 rfl (D_180 W_prog_5_method_24_code_32 30 rfl rfl rfl) ?_
    refine lv_iconst (v := iI 1) hx hb (D_4 W_prog_5_method_24_code_64 1 rfl rfl) rfl ?_
    refine zadd hx hb (D_96 W_prog_5_method_24_code_64 2 rfl rfl) ?_
    refine zput (ci := 3) (C := RX3) (T := TX3) (k := 15) (v := ((F 3 l0 15) + 1)) (w := .int (iI ((F 3 l0 15) + 1))) hx hb hts inW_3 tyX3 tyX3_ok nmX3 hown hK hZ8 hS8 g1.1 g1.2 rfl (by decide) k_1_132 rfl (fun G h => congrArg (fun q => Value.int (iI q)) h) rfl rfl (zno (by decide)) (D_181 W_prog_5_method_24_code_64 3 rfl rfl rfl) (fun H9 locs9 hZ9 hS9 => ?_)
    refine lv_aload_n hx hb (D_42 W_prog_5_method_24_code_64 6 rfl rfl) rfl (lv_at hl 0 rfl) ?_
    refine zget (ci := 3) (C := RX3) (T := TX3) (v := .ref (ad 3 l0 (6 + 1))) (k := 6) hx hb hts inW_3 hown hK hZ9 g1.1 g1.2 rfl (by decide) k_1_118 rfl (D_180 W_prog_5_method_24_code_64 7 rfl rfl rfl) ?_
    refine lv_iload_n hx hb (D_27 W_prog_5_method_24_code_64 10 rfl rfl) rfl (lv_at hl 1 rfl) ?_
    refine lv_dup2_11 hx hb (D_92 W_prog_5_method_24_code_64 11 rfl rfl) rfl rfl ?_
    obtain ⟨g10, hf⟩ := gif hf
    refine zald (ci := 3) (k := 6) hx hb hK rfl hZ9 g1.1 g1.2 rfl (Nat.le_of_ble_eq_true rfl) g10.1 g10.2 (D_46 W_prog_5_method_24_code_64 12 rfl rfl) ?_
    refine lv_iconst (v := iI 1) hx hb (D_4 W_prog_5_method_24_code_64 13 rfl rfl) rfl ?_
    refine zadd hx hb (D_96 W_prog_5_method_24_code_64 14 rfl rfl) ?_
    refine zast (ci := 3) (k := 6) hx hb hK rfl hZ9 hS9 g1.1 g1.2 rfl (Nat.le_of_ble_eq_true rfl) g10.1 g10.2 (D_79 W_prog_5_method_24_code_64 15 rfl rfl) (fun H11 locs11 hZ11 hS11 => ?_)
    exact b_Parser_takePitch_80 X hf hZ11 hS11 (lv_sub hl [0] rfl)

abbrev Q_Long_bitCount (K : zK) (D : va_G) (ca : Nat → ClassId) (ad : Nat → Int → Nat → Nat) (L : List Nat) (r : Int) (F : zF) (B : zB) (A : Nat → Prop) : Array Value → State → Outcome → State → Prop := va_Qi (S := Unit) (fun p _ => p = iI r) (fun _ => zPo D ca ad lnC K.2 L F B A) A
def f_Long_bitCount (K : zK) (l0 : Int) (F : zF) (B : zB) : zO := some (zand ((((zland (((zland (l0 - (zland (zlushr l0 1) 6148914691236517205)) 3689348814741910323) + (zland (zlushr (l0 - (zland (zlushr l0 1) 6148914691236517205)) 2) 3689348814741910323)) + (zlushr ((zland (l0 - (zland (zlushr l0 1) 6148914691236517205)) 3689348814741910323) + (zland (zlushr (l0 - (zland (zlushr l0 1) 6148914691236517205)) 2) 3689348814741910323)) 4)) 1085102592571150095) + (zlushr (zland (((zland (l0 - (zland (zlushr l0 1) 6148914691236517205)) 3689348814741910323) + (zland (zlushr (l0 - (zland (zlushr l0 1) 6148914691236517205)) 2) 3689348814741910323)) + (zlushr ((zland (l0 - (zland (zlushr l0 1) 6148914691236517205)) 3689348814741910323) + (zland (zlushr (l0 - (zland (zlushr l0 1) 6148914691236517205)) 2) 3689348814741910323)) 4)) 1085102592571150095) 8)) + (zlushr ((zland (((zland (l0 - (zland (zlushr l0 1) 6148914691236517205)) 3689348814741910323) + (zland (zlushr (l0 - (zland (zlushr l0 1) 6148914691236517205)) 2) 3689348814741910323)) + (zlushr ((zland (l0 - (zland (zlushr l0 1) 6148914691236517205)) 3689348814741910323) + (zland (zlushr (l0 - (zland (zlushr l0 1) 6148914691236517205)) 2) 3689348814741910323)) 4)) 1085102592571150095) + (zlushr (zland (((zland (l0 - (zland (zlushr l0 1) 6148914691236517205)) 3689348814741910323) + (zland (zlushr (l0 - (zland (zlushr l0 1) 6148914691236517205)) 2) 3689348814741910323)) + (zlushr ((zland (l0 - (zland (zlushr l0 1) 6148914691236517205)) 3689348814741910323) + (zland (zlushr (l0 - (zland (zlushr l0 1) 6148914691236517205)) 2) 3689348814741910323)) 4)) 1085102592571150095) 8)) 16)) + (zlushr (((zland (((zland (l0 - (zland (zlushr l0 1) 6148914691236517205)) 3689348814741910323) + (zland (zlushr (l0 - (zland (zlushr l0 1) 6148914691236517205)) 2) 3689348814741910323)) + (zlushr ((zland (l0 - (zland (zlushr l0 1) 6148914691236517205)) 3689348814741910323) + (zland (zlushr (l0 - (zland (zlushr l0 1) 6148914691236517205)) 2) 3689348814741910323)) 4)) 1085102592571150095) + (zlushr (zland (((zland (l0 - (zland (zlushr l0 1) 6148914691236517205)) 3689348814741910323) + (zland (zlushr (l0 - (zland (zlushr l0 1) 6148914691236517205)) 2) 3689348814741910323)) + (zlushr ((zland (l0 - (zland (zlushr l0 1) 6148914691236517205)) 3689348814741910323) + (zland (zlushr (l0 - (zland (zlushr l0 1) 6148914691236517205)) 2) 3689348814741910323)) 4)) 1085102592571150095) 8)) + (zlushr ((zland (((zland (l0 - (zland (zlushr l0 1) 6148914691236517205)) 3689348814741910323) + (zland (zlushr (l0 - (zland (zlushr l0 1) 6148914691236517205)) 2) 3689348814741910323)) + (zlushr ((zland (l0 - (zland (zlushr l0 1) 6148914691236517205)) 3689348814741910323) + (zland (zlushr (l0 - (zland (zlushr l0 1) 6148914691236517205)) 2) 3689348814741910323)) 4)) 1085102592571150095) + (zlushr (zland (((zland (l0 - (zland (zlushr l0 1) 6148914691236517205)) 3689348814741910323) + (zland (zlushr (l0 - (zland (zlushr l0 1) 6148914691236517205)) 2) 3689348814741910323)) + (zlushr ((zland (l0 - (zland (zlushr l0 1) 6148914691236517205)) 3689348814741910323) + (zland (zlushr (l0 - (zland (zlushr l0 1) 6148914691236517205)) 2) 3689348814741910323)) 4)) 1085102592571150095) 8)) 16)) 32)) 127, F, B)
set_option maxHeartbeats 4000000 in
set_option maxRecDepth 100000 in
theorem c_Long_bitCount {l : Launch} {D : va_G} {ca : Nat → ClassId} {ad : Nat → Int → Nat → Nat} {L : List Nat} {aS vS : Nat → Nat} {sz : Nat} {K : zK}  {l0 : Int} {F F9 : zF} {B B9 : zB} {r : Int} (hf : f_Long_bitCount K l0 F B = some (r, F9, B9)) : Met l ({ cls := "java/lang/Long", name := "bitCount", desc := "(J)I" } : Jvm.MethodName) (Cond.code ({ cls := "java/lang/Long", name := "bitCount", desc := "(J)I" } : Jvm.MethodName) prog_19_method_50_code 2 (Option.some Jvm.ClassFile.FieldType.int) :: wAll) ({ frames := 0, cells := 0, slots := 0, locals := 0 } : Room) (va_Pc [.long (lI l0)] (zPre D ca ad lnC K.2 L aS vS F B sz)) (Q_Long_bitCount K D ca ad L r F9 B9 (zA L sz)) 0 0 (zA L sz) := by
  refine zMet (Qc := Q_Long_bitCount K D ca ad L r F9 B9) (lv := [(0, .long (lI l0))]) (by decide) (Nat.le_of_ble_eq_true rfl) rfl (fun A p e s m below meth c ls X hZ hS hl => ?_)
  obtain ⟨hx, hb, hr, hml, hown, hts, hlk, hK, hA, hL, hX⟩ := id X
  replace hf : (some (zand ((((zland (((zland (l0 - (zland (zlushr l0 1) 6148914691236517205)) 3689348814741910323) + (zland (zlushr (l0 - (zland (zlushr l0 1) 6148914691236517205)) 2) 3689348814741910323)) + (zlushr ((zland (l0 - (zland (zlushr l0 1) 6148914691236517205)) 3689348814741910323) + (zland (zlushr (l0 - (zland (zlushr l0 1) 6148914691236517205)) 2) 3689348814741910323)) 4)) 1085102592571150095) + (zlushr (zland (((zland (l0 - (zland (zlushr l0 1) 6148914691236517205)) 3689348814741910323) + (zland (zlushr (l0 - (zland (zlushr l0 1) 6148914691236517205)) 2) 3689348814741910323)) + (zlushr ((zland (l0 - (zland (zlushr l0 1) 6148914691236517205)) 3689348814741910323) + (zland (zlushr (l0 - (zland (zlushr l0 1) 6148914691236517205)) 2) 3689348814741910323)) 4)) 1085102592571150095) 8)) + (zlushr ((zland (((zland (l0 - (zland (zlushr l0 1) 6148914691236517205)) 3689348814741910323) + (zland (zlushr (l0 - (zland (zlushr l0 1) 6148914691236517205)) 2) 3689348814741910323)) + (zlushr ((zland (l0 - (zland (zlushr l0 1) 6148914691236517205)) 3689348814741910323) + (zland (zlushr (l0 - (zland (zlushr l0 1) 6148914691236517205)) 2) 3689348814741910323)) 4)) 1085102592571150095) + (zlushr (zland (((zland (l0 - (zland (zlushr l0 1) 6148914691236517205)) 3689348814741910323) + (zland (zlushr (l0 - (zland (zlushr l0 1) 6148914691236517205)) 2) 3689348814741910323)) + (zlushr ((zland (l0 - (zland (zlushr l0 1) 6148914691236517205)) 3689348814741910323) + (zland (zlushr (l0 - (zland (zlushr l0 1) 6148914691236517205)) 2) 3689348814741910323)) 4)) 1085102592571150095) 8)) 16)) + (zlushr (((zland (((zland (l0 - (zland (zlushr l0 1) 6148914691236517205)) 3689348814741910323) + (zland (zlushr (l0 - (zland (zlushr l0 1) 6148914691236517205)) 2) 3689348814741910323)) + (zlushr ((zland (l0 - (zland (zlushr l0 1) 6148914691236517205)) 3689348814741910323) + (zland (zlushr (l0 - (zland (zlushr l0 1) 6148914691236517205)) 2) 3689348814741910323)) 4)) 1085102592571150095) + (zlushr (zland (((zland (l0 - (zland (zlushr l0 1) 6148914691236517205)) 3689348814741910323) + (zland (zlushr (l0 - (zland (zlushr l0 1) 6148914691236517205)) 2) 3689348814741910323)) + (zlushr ((zland (l0 - (zland (zlushr l0 1) 6148914691236517205)) 3689348814741910323) + (zland (zlushr (l0 - (zland (zlushr l0 1) 6148914691236517205)) 2) 3689348814741910323)) 4)) 1085102592571150095) 8)) + (zlushr ((zland (((zland (l0 - (zland (zlushr l0 1) 6148914691236517205)) 3689348814741910323) + (zland (zlushr (l0 - (zland (zlushr l0 1) 6148914691236517205)) 2) 3689348814741910323)) + (zlushr ((zland (l0 - (zland (zlushr l0 1) 6148914691236517205)) 3689348814741910323) + (zland (zlushr (l0 - (zland (zlushr l0 1) 6148914691236517205)) 2) 3689348814741910323)) 4)) 1085102592571150095) + (zlushr (zland (((zland (l0 - (zland (zlushr l0 1) 6148914691236517205)) 3689348814741910323) + (zland (zlushr (l0 - (zland (zlushr l0 1) 6148914691236517205)) 2) 3689348814741910323)) + (zlushr ((zland (l0 - (zland (zlushr l0 1) 6148914691236517205)) 3689348814741910323) + (zland (zlushr (l0 - (zland (zlushr l0 1) 6148914691236517205)) 2) 3689348814741910323)) 4)) 1085102592571150095) 8)) 16)) 32)) 127, F, B)) = some (r, F9, B9) := hf
  refine lv_lload_n hx hb (D_30 W_prog_19_method_50_code_0 0 rfl rfl) rfl (lv_at hl 0 rfl) ?_
  refine lv_lload_n hx hb (D_30 W_prog_19_method_50_code_0 1 rfl rfl) rfl (lv_at hl 0 rfl) ?_
  refine lv_iconst (v := iI 1) hx hb (D_4 W_prog_19_method_50_code_0 2 rfl rfl) rfl ?_
  refine zlushr_r hx hb (D_125 W_prog_19_method_50_code_0 3 rfl rfl) ?_
  refine lv_ldc2 hx hb hown (hts _ k_4_16) (D_20 W_prog_19_method_50_code_0 4 rfl rfl rfl) ?_
  refine W.eq (g2 := F0 m 7 ls [.long (lI 6148914691236517205), .long (lI (zlushr l0 1)), .long (lI l0)]) rfl ?_
  refine zland_r hx hb (D_127 W_prog_19_method_50_code_0 7 rfl rfl) ?_
  refine zlsub hx hb (D_101 W_prog_19_method_50_code_0 8 rfl rfl) ?_
  refine lv_lstore_n (lv' := [(0, .long (lI (l0 - (zland (zlushr l0 1) 6148914691236517205))))]) hx hb (D_63 W_prog_19_method_50_code_0 9 rfl rfl) rfl hl (by decide) rfl (fun ls hl => ?_)
  refine lv_lload_n hx hb (D_30 W_prog_19_method_50_code_0 10 rfl rfl) rfl (lv_at hl 0 rfl) ?_
  refine lv_ldc2 hx hb hown (hts _ k_4_17) (D_20 W_prog_19_method_50_code_0 11 rfl rfl rfl) ?_
  refine W.eq (g2 := F0 m 14 ls [.long (lI 3689348814741910323), .long (lI (l0 - (zland (zlushr l0 1) 6148914691236517205)))]) rfl ?_
  refine zland_r hx hb (D_127 W_prog_19_method_50_code_0 14 rfl rfl) ?_
  refine lv_lload_n hx hb (D_30 W_prog_19_method_50_code_0 15 rfl rfl) rfl (lv_at hl 0 rfl) ?_
  refine lv_iconst (v := iI 2) hx hb (D_5 W_prog_19_method_50_code_0 16 rfl rfl) rfl ?_
  refine zlushr_r hx hb (D_125 W_prog_19_method_50_code_0 17 rfl rfl) ?_
  refine lv_ldc2 hx hb hown (hts _ k_4_17) (D_20 W_prog_19_method_50_code_0 18 rfl rfl rfl) ?_
  refine W.eq (g2 := F0 m 21 ls [.long (lI 3689348814741910323), .long (lI (zlushr (l0 - (zland (zlushr l0 1) 6148914691236517205)) 2)), .long (lI (zland (l0 - (zland (zlushr l0 1) 6148914691236517205)) 3689348814741910323))]) rfl ?_
  refine zland_r hx hb (D_127 W_prog_19_method_50_code_0 21 rfl rfl) ?_
  refine zladd hx hb (D_97 W_prog_19_method_50_code_0 22 rfl rfl) ?_
  refine lv_lstore_n (lv' := [(0, .long (lI ((zland (l0 - (zland (zlushr l0 1) 6148914691236517205)) 3689348814741910323) + (zland (zlushr (l0 - (zland (zlushr l0 1) 6148914691236517205)) 2) 3689348814741910323))))]) hx hb (D_63 W_prog_19_method_50_code_0 23 rfl rfl) rfl hl (by decide) rfl (fun ls hl => ?_)
  refine lv_lload_n hx hb (D_30 W_prog_19_method_50_code_0 24 rfl rfl) rfl (lv_at hl 0 rfl) ?_
  refine lv_lload_n hx hb (D_30 W_prog_19_method_50_code_0 25 rfl rfl) rfl (lv_at hl 0 rfl) ?_
  refine lv_iconst (v := iI 4) hx hb (D_7 W_prog_19_method_50_code_0 26 rfl rfl) rfl ?_
  refine zlushr_r hx hb (D_125 W_prog_19_method_50_code_0 27 rfl rfl) ?_
  refine zladd hx hb (D_97 W_prog_19_method_50_code_0 28 rfl rfl) ?_
  refine lv_ldc2 hx hb hown (hts _ k_4_18) (D_20 W_prog_19_method_50_code_0 29 rfl rfl rfl) ?_
  refine W.eq (g2 := F0 m 32 ls [.long (lI 1085102592571150095), .long (lI (((zland (l0 - (zland (zlushr l0 1) 6148914691236517205)) 3689348814741910323) + (zland (zlushr (l0 - (zland (zlushr l0 1) 6148914691236517205)) 2) 3689348814741910323)) + (zlushr ((zland (l0 - (zland (zlushr l0 1) 6148914691236517205)) 3689348814741910323) + (zland (zlushr (l0 - (zland (zlushr l0 1) 6148914691236517205)) 2) 3689348814741910323)) 4)))]) rfl ?_
  refine zland_r hx hb (D_127 W_prog_19_method_50_code_32 0 rfl rfl) ?_
  refine lv_lstore_n (lv' := [(0, .long (lI (zland (((zland (l0 - (zland (zlushr l0 1) 6148914691236517205)) 3689348814741910323) + (zland (zlushr (l0 - (zland (zlushr l0 1) 6148914691236517205)) 2) 3689348814741910323)) + (zlushr ((zland (l0 - (zland (zlushr l0 1) 6148914691236517205)) 3689348814741910323) + (zland (zlushr (l0 - (zland (zlushr l0 1) 6148914691236517205)) 2) 3689348814741910323)) 4)) 1085102592571150095)))]) hx hb (D_63 W_prog_19_method_50_code_32 1 rfl rfl) rfl hl (by decide) rfl (fun ls hl => ?_)
  refine lv_lload_n hx hb (D_30 W_prog_19_method_50_code_32 2 rfl rfl) rfl (lv_at hl 0 rfl) ?_
  refine lv_lload_n hx hb (D_30 W_prog_19_method_50_code_32 3 rfl rfl) rfl (lv_at hl 0 rfl) ?_
  refine lv_bipush (v := iI 8) hx hb (D_16 W_prog_19_method_50_code_32 4 rfl rfl rfl) (by decide) ?_
  refine zlushr_r hx hb (D_125 W_prog_19_method_50_code_32 6 rfl rfl) ?_
  refine zladd hx hb (D_97 W_prog_19_method_50_code_32 7 rfl rfl) ?_
  refine lv_lstore_n (lv' := [(0, .long (lI ((zland (((zland (l0 - (zland (zlushr l0 1) 6148914691236517205)) 3689348814741910323) + (zland (zlushr (l0 - (zland (zlushr l0 1) 6148914691236517205)) 2) 3689348814741910323)) + (zlushr ((zland (l0 - (zland (zlushr l0 1) 6148914691236517205)) 3689348814741910323) + (zland (zlushr (l0 - (zland (zlushr l0 1) 6148914691236517205)) 2) 3689348814741910323)) 4)) 1085102592571150095) + (zlushr (zland (((zland (l0 - (zland (zlushr l0 1) 6148914691236517205)) 3689348814741910323) + (zland (zlushr (l0 - (zland (zlushr l0 1) 6148914691236517205)) 2) 3689348814741910323)) + (zlushr ((zland (l0 - (zland (zlushr l0 1) 6148914691236517205)) 3689348814741910323) + (zland (zlushr (l0 - (zland (zlushr l0 1) 6148914691236517205)) 2) 3689348814741910323)) 4)) 1085102592571150095) 8))))]) hx hb (D_63 W_prog_19_method_50_code_32 8 rfl rfl) rfl hl (by decide) rfl (fun ls hl => ?_)
  refine lv_lload_n hx hb (D_30 W_prog_19_method_50_code_32 9 rfl rfl) rfl (lv_at hl 0 rfl) ?_
  refine lv_lload_n hx hb (D_30 W_prog_19_method_50_code_32 10 rfl rfl) rfl (lv_at hl 0 rfl) ?_
  refine lv_bipush (v := iI 16) hx hb (D_16 W_prog_19_method_50_code_32 11 rfl rfl rfl) (by decide) ?_
  refine zlushr_r hx hb (D_125 W_prog_19_method_50_code_32 13 rfl rfl) ?_
  refine zladd hx hb (D_97 W_prog_19_method_50_code_32 14 rfl rfl) ?_
  refine lv_lstore_n (lv' := [(0, .long (lI (((zland (((zland (l0 - (zland (zlushr l0 1) 6148914691236517205)) 3689348814741910323) + (zland (zlushr (l0 - (zland (zlushr l0 1) 6148914691236517205)) 2) 3689348814741910323)) + (zlushr ((zland (l0 - (zland (zlushr l0 1) 6148914691236517205)) 3689348814741910323) + (zland (zlushr (l0 - (zland (zlushr l0 1) 6148914691236517205)) 2) 3689348814741910323)) 4)) 1085102592571150095) + (zlushr (zland (((zland (l0 - (zland (zlushr l0 1) 6148914691236517205)) 3689348814741910323) + (zland (zlushr (l0 - (zland (zlushr l0 1) 6148914691236517205)) 2) 3689348814741910323)) + (zlushr ((zland (l0 - (zland (zlushr l0 1) 6148914691236517205)) 3689348814741910323) + (zland (zlushr (l0 - (zland (zlushr l0 1) 6148914691236517205)) 2) 3689348814741910323)) 4)) 1085102592571150095) 8)) + (zlushr ((zland (((zland (l0 - (zland (zlushr l0 1) 6148914691236517205)) 3689348814741910323) + (zland (zlushr (l0 - (zland (zlushr l0 1) 6148914691236517205)) 2) 3689348814741910323)) + (zlushr ((zland (l0 - (zland (zlushr l0 1) 6148914691236517205)) 3689348814741910323) + (zland (zlushr (l0 - (zland (zlushr l0 1) 6148914691236517205)) 2) 3689348814741910323)) 4)) 1085102592571150095) + (zlushr (zland (((zland (l0 - (zland (zlushr l0 1) 6148914691236517205)) 3689348814741910323) + (zland (zlushr (l0 - (zland (zlushr l0 1) 6148914691236517205)) 2) 3689348814741910323)) + (zlushr ((zland (l0 - (zland (zlushr l0 1) 6148914691236517205)) 3689348814741910323) + (zland (zlushr (l0 - (zland (zlushr l0 1) 6148914691236517205)) 2) 3689348814741910323)) 4)) 1085102592571150095) 8)) 16))))]) hx hb (D_63 W_prog_19_method_50_code_32 15 rfl rfl) rfl hl (by decide) rfl (fun ls hl => ?_)
  refine lv_lload_n hx hb (D_30 W_prog_19_method_50_code_32 16 rfl rfl) rfl (lv_at hl 0 rfl) ?_
  refine lv_lload_n hx hb (D_30 W_prog_19_method_50_code_32 17 rfl rfl) rfl (lv_at hl 0 rfl) ?_
  refine lv_bipush (v := iI 32) hx hb (D_16 W_prog_19_method_50_code_32 18 rfl rfl rfl) (by decide) ?_
  refine zlushr_r hx hb (D_125 W_prog_19_method_50_code_32 20 rfl rfl) ?_
  refine zladd hx hb (D_97 W_prog_19_method_50_code_32 21 rfl rfl) ?_
  refine lv_lstore_n (lv' := [(0, .long (lI ((((zland (((zland (l0 - (zland (zlushr l0 1) 6148914691236517205)) 3689348814741910323) + (zland (zlushr (l0 - (zland (zlushr l0 1) 6148914691236517205)) 2) 3689348814741910323)) + (zlushr ((zland (l0 - (zland (zlushr l0 1) 6148914691236517205)) 3689348814741910323) + (zland (zlushr (l0 - (zland (zlushr l0 1) 6148914691236517205)) 2) 3689348814741910323)) 4)) 1085102592571150095) + (zlushr (zland (((zland (l0 - (zland (zlushr l0 1) 6148914691236517205)) 3689348814741910323) + (zland (zlushr (l0 - (zland (zlushr l0 1) 6148914691236517205)) 2) 3689348814741910323)) + (zlushr ((zland (l0 - (zland (zlushr l0 1) 6148914691236517205)) 3689348814741910323) + (zland (zlushr (l0 - (zland (zlushr l0 1) 6148914691236517205)) 2) 3689348814741910323)) 4)) 1085102592571150095) 8)) + (zlushr ((zland (((zland (l0 - (zland (zlushr l0 1) 6148914691236517205)) 3689348814741910323) + (zland (zlushr (l0 - (zland (zlushr l0 1) 6148914691236517205)) 2) 3689348814741910323)) + (zlushr ((zland (l0 - (zland (zlushr l0 1) 6148914691236517205)) 3689348814741910323) + (zland (zlushr (l0 - (zland (zlushr l0 1) 6148914691236517205)) 2) 3689348814741910323)) 4)) 1085102592571150095) + (zlushr (zland (((zland (l0 - (zland (zlushr l0 1) 6148914691236517205)) 3689348814741910323) + (zland (zlushr (l0 - (zland (zlushr l0 1) 6148914691236517205)) 2) 3689348814741910323)) + (zlushr ((zland (l0 - (zland (zlushr l0 1) 6148914691236517205)) 3689348814741910323) + (zland (zlushr (l0 - (zland (zlushr l0 1) 6148914691236517205)) 2) 3689348814741910323)) 4)) 1085102592571150095) 8)) 16)) + (zlushr (((zland (((zland (l0 - (zland (zlushr l0 1) 6148914691236517205)) 3689348814741910323) + (zland (zlushr (l0 - (zland (zlushr l0 1) 6148914691236517205)) 2) 3689348814741910323)) + (zlushr ((zland (l0 - (zland (zlushr l0 1) 6148914691236517205)) 3689348814741910323) + (zland (zlushr (l0 - (zland (zlushr l0 1) 6148914691236517205)) 2) 3689348814741910323)) 4)) 1085102592571150095) + (zlushr (zland (((zland (l0 - (zland (zlushr l0 1) 6148914691236517205)) 3689348814741910323) + (zland (zlushr (l0 - (zland (zlushr l0 1) 6148914691236517205)) 2) 3689348814741910323)) + (zlushr ((zland (l0 - (zland (zlushr l0 1) 6148914691236517205)) 3689348814741910323) + (zland (zlushr (l0 - (zland (zlushr l0 1) 6148914691236517205)) 2) 3689348814741910323)) 4)) 1085102592571150095) 8)) + (zlushr ((zland (((zland (l0 - (zland (zlushr l0 1) 6148914691236517205)) 3689348814741910323) + (zland (zlushr (l0 - (zland (zlushr l0 1) 6148914691236517205)) 2) 3689348814741910323)) + (zlushr ((zland (l0 - (zland (zlushr l0 1) 6148914691236517205)) 3689348814741910323) + (zland (zlushr (l0 - (zland (zlushr l0 1) 6148914691236517205)) 2) 3689348814741910323)) 4)) 1085102592571150095) + (zlushr (zland (((zland (l0 - (zland (zlushr l0 1) 6148914691236517205)) 3689348814741910323) + (zland (zlushr (l0 - (zland (zlushr l0 1) 6148914691236517205)) 2) 3689348814741910323)) + (zlushr ((zland (l0 - (zland (zlushr l0 1) 6148914691236517205)) 3689348814741910323) + (zland (zlushr (l0 - (zland (zlushr l0 1) 6148914691236517205)) 2) 3689348814741910323)) 4)) 1085102592571150095) 8)) 16)) 32))))]) hx hb (D_63 W_prog_19_method_50_code_32 22 rfl rfl) rfl hl (by decide) rfl (fun ls hl => ?_)
  refine lv_lload_n hx hb (D_30 W_prog_19_method_50_code_32 23 rfl rfl) rfl (lv_at hl 0 rfl) ?_
  refine zl2iw hx hb (D_136 W_prog_19_method_50_code_32 24 rfl rfl) ?_
  refine lv_bipush (v := iI 127) hx hb (D_16 W_prog_19_method_50_code_32 25 rfl rfl rfl) (by decide) ?_
  refine zand_r hx hb (D_126 W_prog_19_method_50_code_32 27 rfl rfl) ?_
  cases hf
  exact W.iret hx hb hr (fun t ht hW => ⟨⟨_, (), rfl, rfl, by rw [ht]; exact hZ, va_K.moved hW.alike hK⟩, hS.F ht⟩) hS.2.2 (D_172 W_prog_19_method_50_code_32 28 rfl rfl) hlk

abbrev Q_Parser_takeLoud (K : zK) (D : va_G) (ca : Nat → ClassId) (ad : Nat → Int → Nat → Nat) (L : List Nat) (r : Int) (F : zF) (B : zB) (A : Nat → Prop) : Array Value → State → Outcome → State → Prop := va_Qi (S := Unit) (fun p _ => p = iI r) (fun _ => zPo D ca ad lnC K.2 L F B A) A
def f_Parser_takeLoud_28 (K : zK) (l0 : Int) (l1 : Int) (s0 : Int) (F : zF) (B : zB) : zO := if r32 s0 then (if s0 = (-1) then if 0 ≤ l0 ∧ l0 < K.2 3 then zbind (f_Parser_refuse K l0 2 F B) (fun r14 F14 B14 => if (r14 = 0 ∨ r14 = 1) then some (r14, F14, B14) else none) else none else if 0 ≤ l0 ∧ l0 < K.2 3 then if 0 ≤ l1 ∧ l1 < 3000 then if 0 ≤ (F 3 l0 11) ∧ (F 3 l0 11) < K.2 10 then zbind (f_Tokens_advance K (F 3 l0 11) F (zup4 B 3 l0 2 l1 s0)) (fun r12 F12 B12 => some (1, F12, B12)) else none else none else none) else none
set_option maxHeartbeats 4000000 in
set_option maxRecDepth 100000 in
theorem b_Parser_takeLoud_28 {D : va_G} {ca : Nat → ClassId} {ad : Nat → Int → Nat → Nat} {L : List Nat} {aS vS : Nat → Nat} {A : Nat → Prop} {p : Program} {l : Launch} {e : Env} {s : State} {m : MethodId} {args : Array Value} {below : List Frame} {meth : Method} {c : Code} {K : zK} {r : Int} {F9 : zF} {B9 : zB} (X : zX D ca L aS vS A p s m args meth c prog_5_method_28_code 3 (Option.some Jvm.ClassFile.FieldType.boolean) "StaveHouse$Parser") {l0 : Int} {l1 : Int} {s0 : Int} {F : zF} {B : zB} {H : Heap} {locs : List Loc} {ls : Array Slot} (hf : f_Parser_takeLoud_28 K l0 l1 s0 F B = some (r, F9, B9)) (hZ : zH D ca ad lnC K.2 L F B A H) (hS : va_S A s.heap H locs) (hl : lv_has ls 3 [(0, .ref (ad 3 l0 0)), (1, .int (iI l1))]) : W p l e ({ frames := 1, cells := 0, slots := 0, locals := 23 } : Room) s m args below meth c H locs 0 0 (MQ below (Q_Parser_takeLoud K D ca ad L r F9 B9 A) args s 0 0 A) (F0 m 28 ls [.int (iI s0)]) := by
  obtain ⟨hx, hb, hr, hml, hown, hts, hlk, hK, hA, hL, hX⟩ := id X
  replace hf : (if r32 s0 then (if s0 = (-1) then if 0 ≤ l0 ∧ l0 < K.2 3 then zbind (f_Parser_refuse K l0 2 F B) (fun r14 F14 B14 => if (r14 = 0 ∨ r14 = 1) then some (r14, F14, B14) else none) else none else if 0 ≤ l0 ∧ l0 < K.2 3 then if 0 ≤ l1 ∧ l1 < 3000 then if 0 ≤ (F 3 l0 11) ∧ (F 3 l0 11) < K.2 10 then zbind (f_Tokens_advance K (F 3 l0 11) F (zup4 B 3 l0 2 l1 s0)) (fun r12 F12 B12 => some (1, F12, B12)) else none else none else none) else none) = some (r, F9, B9) := hf
  refine lv_istore_n (lv' := [(2, .int (iI s0)), (0, .ref (ad 3 l0 0)), (1, .int (iI l1))]) hx hb (D_61 W_prog_5_method_28_code_0 28 rfl rfl) rfl hl (by decide) rfl (fun ls hl => ?_)
  refine lv_iload_n hx hb (D_28 W_prog_5_method_28_code_0 29 rfl rfl) rfl (lv_at hl 0 rfl) ?_
  refine lv_iconst (v := iI (-1)) hx hb (D_2 W_prog_5_method_28_code_0 30 rfl rfl) rfl ?_
  obtain ⟨g6, hf⟩ := gif hf
  refine zne (tgt := 40) hx hb g6 (by decide) (D_160 W_prog_5_method_28_code_0 31 rfl rfl rfl) (by decide) (fun h7 => ?_) (fun h7 => ?_)
  · replace hf := gneg hf h7
    refine lv_aload_n hx hb (D_42 W_prog_5_method_28_code_32 8 rfl rfl) rfl (lv_at hl 1 rfl) ?_
    obtain ⟨g8, hf⟩ := gif hf
    refine zget (ci := 3) (C := RX3) (T := TX3) (v := .ref (ad 3 l0 (2 + 1))) (k := 2) hx hb hts inW_3 hown hK hZ g8.1 g8.2 rfl (by decide) k_1_110 rfl (D_180 W_prog_5_method_28_code_32 9 rfl rfl rfl) ?_
    refine lv_iload_n hx hb (D_27 W_prog_5_method_28_code_32 12 rfl rfl) rfl (lv_at hl 2 rfl) ?_
    refine lv_iload_n hx hb (D_28 W_prog_5_method_28_code_32 13 rfl rfl) rfl (lv_at hl 0 rfl) ?_
    obtain ⟨g9, hf⟩ := gif hf
    refine zast (ci := 3) (k := 2) hx hb hK rfl hZ hS g8.1 g8.2 rfl (Nat.le_of_ble_eq_true rfl) g9.1 g9.2 (D_79 W_prog_5_method_28_code_32 14 rfl rfl) (fun H10 locs10 hZ10 hS10 => ?_)
    refine lv_aload_n hx hb (D_42 W_prog_5_method_28_code_32 15 rfl rfl) rfl (lv_at hl 1 rfl) ?_
    refine zget (ci := 3) (C := RX3) (T := TX3) (v := va_rf (zrf ad 10 (F 3 l0 11))) (k := 11) hx hb hts inW_3 hown hK hZ10 g8.1 g8.2 rfl (by decide) k_1_128 rfl (D_180 W_prog_5_method_28_code_32 16 rfl rfl rfl) ?_
    obtain ⟨g11, hf⟩ := gif hf
    refine W.eq (g2 := F0 m 51 ls [.ref (ad 10 (F 3 l0 11) 0)]) (by rw [zrf_pos (ad := ad) (t := 10) g11.1]; try rfl) ?_
    obtain ⟨r12, F12, B12, hc12, hf⟩ := gbind hf
    refine va_callv (va_runV (As := []) (rest := []) ⟨hx, hb, hml, hown, hts⟩ (c_Tokens_advance (l := l) hc12) (cwV 0 hts (gdV k_3_180 k_3_152 k_3_153 k_1_5 k_3_154) rfl rfl rfl (by decide +kernel) ⟨Nat.le_of_ble_eq_true rfl, Nat.le_of_ble_eq_true rfl⟩) (zPV X hZ10 hS10 (ci := 10) g11.1 g11.2 (r := (RX10, TX10, 9)) rfl []) rfl rfl hl.1 rfl (lv_room (Nat.le_of_ble_eq_true rfl)) (D_182 W_prog_5_method_28_code_32 19 rfl rfl rfl) ⟨Nat.le_of_ble_eq_true rfl, Nat.le_of_ble_eq_true rfl⟩) hS10 (fun q _ h => zAin X hS10 q h) (zAin X hS10) (fun u12 t12 H12 locs12 ht12 hv12 hw12 hB12 hz12 hk12 hS12 => ?_)
    have hZ12 := zBack X ht12 hB12
    refine lv_iconst (v := iI 1) hx hb (D_4 W_prog_5_method_28_code_32 22 rfl rfl) rfl ?_
    cases hf
    exact W.zret hx hb hr rfl (fun t ht hW => ⟨⟨_, (), rfl, rfl, by rw [ht]; exact hZ12, va_K.moved hW.alike hK⟩, hS12.F ht⟩) hS12.2.2 (D_172 W_prog_5_method_28_code_32 23 rfl rfl) hlk
  · replace hf := gpos hf h7
    refine lv_aload_n hx hb (D_42 W_prog_5_method_28_code_32 2 rfl rfl) rfl (lv_at hl 1 rfl) ?_
    refine lv_iconst (v := iI 2) hx hb (D_5 W_prog_5_method_28_code_32 3 rfl rfl) rfl ?_
    obtain ⟨g13, hf⟩ := gif hf
    obtain ⟨r14, F14, B14, hc14, hf⟩ := gbind hf
    refine va_calli (va_runV (As := [.int (iI 2)]) (rest := []) ⟨hx, hb, hml, hown, hts⟩ (c_Parser_refuse (l := l) hc14) (cwV 1 hts (gdV k_3_196 k_3_198 ks_7 k_1_4 k_3_199) rfl rfl rfl (by decide +kernel) ⟨Nat.le_of_ble_eq_true rfl, Nat.le_of_ble_eq_true rfl⟩) (zPV X hZ hS (ci := 3) g13.1 g13.2 (r := (RX3, TX3, 22)) rfl [.int (iI 2)]) rfl rfl hl.1 rfl (lv_room (Nat.le_of_ble_eq_true rfl)) (D_182 W_prog_5_method_28_code_32 4 rfl rfl rfl) ⟨Nat.le_of_ble_eq_true rfl, Nat.le_of_ble_eq_true rfl⟩) hS (fun q _ h => zAin X hS q h) (zAin X hS) (fun p14 u14 t14 H14 locs14 ht14 hv14 hw14 hB14 hz14 hk14 hS14 => ?_)
    have hZ14 := zBack X ht14 hB14
    subst hw14
    obtain ⟨g15, hf⟩ := gif hf
    cases hf
    exact W.zret hx hb hr (zbool g15) (fun t ht hW => ⟨⟨_, (), rfl, rfl, by rw [ht]; exact hZ14, va_K.moved hW.alike hK⟩, hS14.F ht⟩) hS14.2.2 (D_172 W_prog_5_method_28_code_32 7 rfl rfl) hlk

def f_Parser_takeLoud (K : zK) (l0 : Int) (l1 : Int) (F : zF) (B : zB) : zO := if 0 ≤ l0 ∧ l0 < K.2 3 then if 0 ≤ (F 3 l0 11) ∧ (F 3 l0 11) < K.2 10 then if r32 (F 10 (F 3 l0 11) 0) then (if (F 10 (F 3 l0 11) 0) = 4 then zbind (f_Parser_indexOf K 1 (F 10 (F 3 l0 11) 2) F B) (fun r5 F5 B5 => f_Parser_takeLoud_28 K l0 l1 r5 F5 B5) else f_Parser_takeLoud_28 K l0 l1 (-1) F B) else none else none else none
set_option maxHeartbeats 4000000 in
set_option maxRecDepth 100000 in
theorem c_Parser_takeLoud {l : Launch} {D : va_G} {ca : Nat → ClassId} {ad : Nat → Int → Nat → Nat} {L : List Nat} {aS vS : Nat → Nat} {sz : Nat} {K : zK}  {l0 : Int} {l1 : Int} {F F9 : zF} {B B9 : zB} {r : Int} (hf : f_Parser_takeLoud K l0 l1 F B = some (r, F9, B9)) : Met l ({ cls := "StaveHouse$Parser", name := "takeLoud", desc := "(I)Z" } : Jvm.MethodName) (Cond.code ({ cls := "StaveHouse$Parser", name := "takeLoud", desc := "(I)Z" } : Jvm.MethodName) prog_5_method_28_code 3 (Option.some Jvm.ClassFile.FieldType.boolean) :: wAll) ({ frames := 1, cells := 0, slots := 0, locals := 23 } : Room) (va_Pc [.ref (ad 3 l0 0), .int (iI l1)] (zPre D ca ad lnC K.2 L aS vS F B sz)) (Q_Parser_takeLoud K D ca ad L r F9 B9 (zA L sz)) 0 0 (zA L sz) := by
  refine zMet (Qc := Q_Parser_takeLoud K D ca ad L r F9 B9) (lv := [(0, .ref (ad 3 l0 0)), (1, .int (iI l1))]) (by decide) (Nat.le_of_ble_eq_true rfl) rfl (fun A p e s m below meth c ls X hZ hS hl => ?_)
  obtain ⟨hx, hb, hr, hml, hown, hts, hlk, hK, hA, hL, hX⟩ := id X
  replace hf : (if 0 ≤ l0 ∧ l0 < K.2 3 then if 0 ≤ (F 3 l0 11) ∧ (F 3 l0 11) < K.2 10 then if r32 (F 10 (F 3 l0 11) 0) then (if (F 10 (F 3 l0 11) 0) = 4 then zbind (f_Parser_indexOf K 1 (F 10 (F 3 l0 11) 2) F B) (fun r5 F5 B5 => f_Parser_takeLoud_28 K l0 l1 r5 F5 B5) else f_Parser_takeLoud_28 K l0 l1 (-1) F B) else none else none else none) = some (r, F9, B9) := hf
  refine lv_aload_n hx hb (D_42 W_prog_5_method_28_code_0 0 rfl rfl) rfl (lv_at hl 0 rfl) ?_
  obtain ⟨g1, hf⟩ := gif hf
  refine zget (ci := 3) (C := RX3) (T := TX3) (v := va_rf (zrf ad 10 (F 3 l0 11))) (k := 11) hx hb hts inW_3 hown hK hZ g1.1 g1.2 rfl (by decide) k_1_128 rfl (D_180 W_prog_5_method_28_code_0 1 rfl rfl rfl) ?_
  obtain ⟨g2, hf⟩ := gif hf
  refine zunrf g2.1 ?_
  refine zget (ci := 10) (C := RX10) (T := TX10) (v := .int (iI (F 10 (F 3 l0 11) 0))) (k := 0) hx hb hts inW_10 hown hK hZ g2.1 g2.2 rfl (by decide) k_1_72 rfl (D_180 W_prog_5_method_28_code_0 4 rfl rfl rfl) ?_
  refine lv_iconst (v := iI 4) hx hb (D_7 W_prog_5_method_28_code_0 7 rfl rfl) rfl ?_
  obtain ⟨g3, hf⟩ := gif hf
  refine zne (tgt := 27) hx hb g3 (by decide) (D_160 W_prog_5_method_28_code_0 8 rfl rfl rfl) (by decide) (fun h4 => ?_) (fun h4 => ?_)
  · replace hf := gneg hf h4
    refine lv_iconst (v := iI (-1)) hx hb (D_2 W_prog_5_method_28_code_0 27 rfl rfl) rfl ?_
    exact b_Parser_takeLoud_28 X hf hZ hS (lv_sub hl [0, 1] rfl)
  · replace hf := gpos hf h4
    refine va_gets hx hb (hX.2.2.2.2.2.2 1 _ rfl).1 hS hown (hts _ k_3_190) (fun _ h => h) (D_178 W_prog_5_method_28_code_0 11 rfl rfl rfl) ?_
    refine W.eq (g2 := F0 m 14 ls [.ref (vS (1000 + 1))]) rfl ?_
    refine lv_aload_n hx hb (D_42 W_prog_5_method_28_code_0 14 rfl rfl) rfl (lv_at hl 0 rfl) ?_
    refine zget (ci := 3) (C := RX3) (T := TX3) (v := va_rf (zrf ad 10 (F 3 l0 11))) (k := 11) hx hb hts inW_3 hown hK hZ g1.1 g1.2 rfl (by decide) k_1_128 rfl (D_180 W_prog_5_method_28_code_0 15 rfl rfl rfl) ?_
    refine zunrf g2.1 ?_
    refine zget (ci := 10) (C := RX10) (T := TX10) (v := .long (lI (F 10 (F 3 l0 11) 2))) (k := 2) hx hb hts inW_10 hown hK hZ g2.1 g2.2 rfl (by decide) k_1_77 rfl (D_180 W_prog_5_method_28_code_0 18 rfl rfl rfl) ?_
    obtain ⟨r5, F5, B5, hc5, hf⟩ := gbind hf
    refine va_calli (va_runS (As := [.ref (vS (1000 + 1)), .long (lI (F 10 (F 3 l0 11) 2))]) (rest := []) ⟨hx, hb, hml, hown, hts⟩ (c_Parser_indexOf (l := l) hc5) (va_cwS 2 hts (gdS k_3_187 k_3_188 k_1_4 k_3_189) rfl rfl rfl (by decide +kernel) ⟨Nat.le_of_ble_eq_true rfl, Nat.le_of_ble_eq_true rfl⟩) (zPS X hZ hS [.ref (vS (1000 + 1)), .long (lI (F 10 (F 3 l0 11) 2))]) rfl rfl hl.1 rfl (lv_room (Nat.le_of_ble_eq_true rfl)) (D_184 W_prog_5_method_28_code_0 21 rfl rfl rfl) ⟨Nat.le_of_ble_eq_true rfl, Nat.le_of_ble_eq_true rfl⟩) hS (fun q _ h => zAin X hS q h) (zAin X hS) (fun p5 u5 t5 H5 locs5 ht5 hv5 hw5 hB5 hz5 hk5 hS5 => ?_)
    have hZ5 := zBack X ht5 hB5
    subst hw5
    refine lv_goto (tgt := 28) hx hb (D_167 W_prog_5_method_28_code_0 24 rfl rfl rfl) (by decide) ?_
    exact b_Parser_takeLoud_28 X hf hZ5 hS5 (lv_sub hl [0, 1] rfl)

abbrev Q_Math_floorDiv (K : zK) (D : va_G) (ca : Nat → ClassId) (ad : Nat → Int → Nat → Nat) (L : List Nat) (r : Int) (F : zF) (B : zB) (A : Nat → Prop) : Array Value → State → Outcome → State → Prop := va_Qi (S := Unit) (fun p _ => p = iI r) (fun _ => zPo D ca ad lnC K.2 L F B A) A
def f_Math_floorDiv_21 (K : zK) (l2 : Int) (F : zF) (B : zB) : zO := some (l2, F, B)
set_option maxHeartbeats 4000000 in
set_option maxRecDepth 100000 in
theorem b_Math_floorDiv_21 {D : va_G} {ca : Nat → ClassId} {ad : Nat → Int → Nat → Nat} {L : List Nat} {aS vS : Nat → Nat} {A : Nat → Prop} {p : Program} {l : Launch} {e : Env} {s : State} {m : MethodId} {args : Array Value} {below : List Frame} {meth : Method} {c : Code} {K : zK} {r : Int} {F9 : zF} {B9 : zB} (X : zX D ca L aS vS A p s m args meth c prog_20_method_47_code 3 (Option.some Jvm.ClassFile.FieldType.int) "java/lang/Math") {l2 : Int} {F : zF} {B : zB} {H : Heap} {locs : List Loc} {ls : Array Slot} (hf : f_Math_floorDiv_21 K l2 F B = some (r, F9, B9)) (hZ : zH D ca ad lnC K.2 L F B A H) (hS : va_S A s.heap H locs) (hl : lv_has ls 3 [(2, .int (iI l2))]) : W p l e ({ frames := 0, cells := 0, slots := 0, locals := 0 } : Room) s m args below meth c H locs 0 0 (MQ below (Q_Math_floorDiv K D ca ad L r F9 B9 A) args s 0 0 A) (F0 m 21 ls []) := by
  obtain ⟨hx, hb, hr, hml, hown, hts, hlk, hK, hA, hL, hX⟩ := id X
  replace hf : (some (l2, F, B)) = some (r, F9, B9) := hf
  refine lv_iload_n hx hb (D_28 W_prog_20_method_47_code_0 21 rfl rfl) rfl (lv_at hl 0 rfl) ?_
  cases hf
  exact W.iret hx hb hr (fun t ht hW => ⟨⟨_, (), rfl, rfl, by rw [ht]; exact hZ, va_K.moved hW.alike hK⟩, hS.F ht⟩) hS.2.2 (D_172 W_prog_20_method_47_code_0 22 rfl rfl) hlk

def f_Math_floorDiv (K : zK) (l0 : Int) (l1 : Int) (F : zF) (B : zB) : zO := if ¬ iI l1 = 0 then if r32 (zxor l0 l1) then (if 0 ≤ (zxor l0 l1) then f_Math_floorDiv_21 K (zdv l0 l1) F B else if r32 ((zdv l0 l1) * l1) then if r32 l0 then (if ((zdv l0 l1) * l1) = l0 then f_Math_floorDiv_21 K (zdv l0 l1) F B else some ((zdv l0 l1) - 1, F, B)) else none else none) else none else none
set_option maxHeartbeats 4000000 in
set_option maxRecDepth 100000 in
theorem c_Math_floorDiv {l : Launch} {D : va_G} {ca : Nat → ClassId} {ad : Nat → Int → Nat → Nat} {L : List Nat} {aS vS : Nat → Nat} {sz : Nat} {K : zK}  {l0 : Int} {l1 : Int} {F F9 : zF} {B B9 : zB} {r : Int} (hf : f_Math_floorDiv K l0 l1 F B = some (r, F9, B9)) : Met l ({ cls := "java/lang/Math", name := "floorDiv", desc := "(II)I" } : Jvm.MethodName) (Cond.code ({ cls := "java/lang/Math", name := "floorDiv", desc := "(II)I" } : Jvm.MethodName) prog_20_method_47_code 3 (Option.some Jvm.ClassFile.FieldType.int) :: wAll) ({ frames := 0, cells := 0, slots := 0, locals := 0 } : Room) (va_Pc [.int (iI l0), .int (iI l1)] (zPre D ca ad lnC K.2 L aS vS F B sz)) (Q_Math_floorDiv K D ca ad L r F9 B9 (zA L sz)) 0 0 (zA L sz) := by
  refine zMetF (Qc := Q_Math_floorDiv K D ca ad L r F9 B9) (lv := [(0, .int (iI l0)), (1, .int (iI l1))]) (by decide +kernel) (Nat.le_of_ble_eq_true rfl) rfl (fun A p e s m below meth c ls X hZ hS hl => ?_)
  obtain ⟨hx, hb, hr, hml, hown, hts, hlk, hK, hA, hL, hX⟩ := id X
  replace hf : (if ¬ iI l1 = 0 then if r32 (zxor l0 l1) then (if 0 ≤ (zxor l0 l1) then f_Math_floorDiv_21 K (zdv l0 l1) F B else if r32 ((zdv l0 l1) * l1) then if r32 l0 then (if ((zdv l0 l1) * l1) = l0 then f_Math_floorDiv_21 K (zdv l0 l1) F B else some ((zdv l0 l1) - 1, F, B)) else none else none) else none else none) = some (r, F9, B9) := hf
  refine lv_iload_n hx hb (D_26 W_prog_20_method_47_code_0 0 rfl rfl) rfl (lv_at hl 0 rfl) ?_
  refine lv_iload_n hx hb (D_27 W_prog_20_method_47_code_0 1 rfl rfl) rfl (lv_at hl 1 rfl) ?_
  obtain ⟨g1, hf⟩ := gif hf
  refine zdv_r hx hb g1 (D_108 W_prog_20_method_47_code_0 2 rfl rfl) ?_
  refine lv_istore_n (lv' := [(2, .int (iI (zdv l0 l1))), (0, .int (iI l0)), (1, .int (iI l1))]) hx hb (D_61 W_prog_20_method_47_code_0 3 rfl rfl) rfl hl (by decide) rfl (fun ls hl => ?_)
  refine lv_iload_n hx hb (D_26 W_prog_20_method_47_code_0 4 rfl rfl) rfl (lv_at hl 1 rfl) ?_
  refine lv_iload_n hx hb (D_27 W_prog_20_method_47_code_0 5 rfl rfl) rfl (lv_at hl 2 rfl) ?_
  refine zxor_r hx hb (D_130 W_prog_20_method_47_code_0 6 rfl rfl) ?_
  obtain ⟨g2, hf⟩ := gif hf
  refine z0ge (tgt := 21) hx hb g2 (D_156 W_prog_20_method_47_code_0 7 rfl rfl rfl) (by decide) (fun h3 => ?_) (fun h3 => ?_)
  · replace hf := gpos hf h3
    exact b_Math_floorDiv_21 X hf hZ hS (lv_sub hl [0] rfl)
  · replace hf := gneg hf h3
    refine lv_iload_n hx hb (D_28 W_prog_20_method_47_code_0 10 rfl rfl) rfl (lv_at hl 0 rfl) ?_
    refine lv_iload_n hx hb (D_27 W_prog_20_method_47_code_0 11 rfl rfl) rfl (lv_at hl 2 rfl) ?_
    refine zmul hx hb (D_104 W_prog_20_method_47_code_0 12 rfl rfl) ?_
    refine lv_iload_n hx hb (D_26 W_prog_20_method_47_code_0 13 rfl rfl) rfl (lv_at hl 1 rfl) ?_
    obtain ⟨g4, hf⟩ := gif hf
    obtain ⟨g5, hf⟩ := gif hf
    refine zeq (tgt := 21) hx hb g4 g5 (D_159 W_prog_20_method_47_code_0 14 rfl rfl rfl) (by decide) (fun h6 => ?_) (fun h6 => ?_)
    · replace hf := gpos hf h6
      exact b_Math_floorDiv_21 X hf hZ hS (lv_sub hl [0] rfl)
    · replace hf := gneg hf h6
      refine lv_iload_n hx hb (D_28 W_prog_20_method_47_code_0 17 rfl rfl) rfl (lv_at hl 0 rfl) ?_
      refine lv_iconst (v := iI 1) hx hb (D_4 W_prog_20_method_47_code_0 18 rfl rfl) rfl ?_
      refine zsub hx hb (D_100 W_prog_20_method_47_code_0 19 rfl rfl) ?_
      cases hf
      exact W.iret hx hb hr (fun t ht hW => ⟨⟨_, (), rfl, rfl, by rw [ht]; exact hZ, va_K.moved hW.alike hK⟩, hS.F ht⟩) hS.2.2 (D_172 W_prog_20_method_47_code_0 20 rfl rfl) hlk

abbrev Q_Math_floorMod (K : zK) (D : va_G) (ca : Nat → ClassId) (ad : Nat → Int → Nat → Nat) (L : List Nat) (r : Int) (F : zF) (B : zB) (A : Nat → Prop) : Array Value → State → Outcome → State → Prop := va_Qi (S := Unit) (fun p _ => p = iI r) (fun _ => zPo D ca ad lnC K.2 L F B A) A
def f_Math_floorMod_18 (K : zK) (l2 : Int) (F : zF) (B : zB) : zO := some (l2, F, B)
set_option maxHeartbeats 4000000 in
set_option maxRecDepth 100000 in
theorem b_Math_floorMod_18 {D : va_G} {ca : Nat → ClassId} {ad : Nat → Int → Nat → Nat} {L : List Nat} {aS vS : Nat → Nat} {A : Nat → Prop} {p : Program} {l : Launch} {e : Env} {s : State} {m : MethodId} {args : Array Value} {below : List Frame} {meth : Method} {c : Code} {K : zK} {r : Int} {F9 : zF} {B9 : zB} (X : zX D ca L aS vS A p s m args meth c prog_20_method_50_code 3 (Option.some Jvm.ClassFile.FieldType.int) "java/lang/Math") {l2 : Int} {F : zF} {B : zB} {H : Heap} {locs : List Loc} {ls : Array Slot} (hf : f_Math_floorMod_18 K l2 F B = some (r, F9, B9)) (hZ : zH D ca ad lnC K.2 L F B A H) (hS : va_S A s.heap H locs) (hl : lv_has ls 3 [(2, .int (iI l2))]) : W p l e ({ frames := 0, cells := 0, slots := 0, locals := 0 } : Room) s m args below meth c H locs 0 0 (MQ below (Q_Math_floorMod K D ca ad L r F9 B9 A) args s 0 0 A) (F0 m 18 ls []) := by
  obtain ⟨hx, hb, hr, hml, hown, hts, hlk, hK, hA, hL, hX⟩ := id X
  replace hf : (some (l2, F, B)) = some (r, F9, B9) := hf
  refine lv_iload_n hx hb (D_28 W_prog_20_method_50_code_0 18 rfl rfl) rfl (lv_at hl 0 rfl) ?_
  cases hf
  exact W.iret hx hb hr (fun t ht hW => ⟨⟨_, (), rfl, rfl, by rw [ht]; exact hZ, va_K.moved hW.alike hK⟩, hS.F ht⟩) hS.2.2 (D_172 W_prog_20_method_50_code_0 19 rfl rfl) hlk

def f_Math_floorMod (K : zK) (l0 : Int) (l1 : Int) (F : zF) (B : zB) : zO := if ¬ iI l1 = 0 then if r32 (zxor l0 l1) then (if 0 ≤ (zxor l0 l1) then f_Math_floorMod_18 K (zrm l0 l1) F B else if r32 (zrm l0 l1) then (if (zrm l0 l1) = 0 then f_Math_floorMod_18 K (zrm l0 l1) F B else some ((zrm l0 l1) + l1, F, B)) else none) else none else none
set_option maxHeartbeats 4000000 in
set_option maxRecDepth 100000 in
theorem c_Math_floorMod {l : Launch} {D : va_G} {ca : Nat → ClassId} {ad : Nat → Int → Nat → Nat} {L : List Nat} {aS vS : Nat → Nat} {sz : Nat} {K : zK}  {l0 : Int} {l1 : Int} {F F9 : zF} {B B9 : zB} {r : Int} (hf : f_Math_floorMod K l0 l1 F B = some (r, F9, B9)) : Met l ({ cls := "java/lang/Math", name := "floorMod", desc := "(II)I" } : Jvm.MethodName) (Cond.code ({ cls := "java/lang/Math", name := "floorMod", desc := "(II)I" } : Jvm.MethodName) prog_20_method_50_code 3 (Option.some Jvm.ClassFile.FieldType.int) :: wAll) ({ frames := 0, cells := 0, slots := 0, locals := 0 } : Room) (va_Pc [.int (iI l0), .int (iI l1)] (zPre D ca ad lnC K.2 L aS vS F B sz)) (Q_Math_floorMod K D ca ad L r F9 B9 (zA L sz)) 0 0 (zA L sz) := by
  refine zMetF (Qc := Q_Math_floorMod K D ca ad L r F9 B9) (lv := [(0, .int (iI l0)), (1, .int (iI l1))]) (by decide +kernel) (Nat.le_of_ble_eq_true rfl) rfl (fun A p e s m below meth c ls X hZ hS hl => ?_)
  obtain ⟨hx, hb, hr, hml, hown, hts, hlk, hK, hA, hL, hX⟩ := id X
  replace hf : (if ¬ iI l1 = 0 then if r32 (zxor l0 l1) then (if 0 ≤ (zxor l0 l1) then f_Math_floorMod_18 K (zrm l0 l1) F B else if r32 (zrm l0 l1) then (if (zrm l0 l1) = 0 then f_Math_floorMod_18 K (zrm l0 l1) F B else some ((zrm l0 l1) + l1, F, B)) else none) else none else none) = some (r, F9, B9) := hf
  refine lv_iload_n hx hb (D_26 W_prog_20_method_50_code_0 0 rfl rfl) rfl (lv_at hl 0 rfl) ?_
  refine lv_iload_n hx hb (D_27 W_prog_20_method_50_code_0 1 rfl rfl) rfl (lv_at hl 1 rfl) ?_
  obtain ⟨g1, hf⟩ := gif hf
  refine zrm_r hx hb g1 (D_112 W_prog_20_method_50_code_0 2 rfl rfl) ?_
  refine lv_istore_n (lv' := [(2, .int (iI (zrm l0 l1))), (0, .int (iI l0)), (1, .int (iI l1))]) hx hb (D_61 W_prog_20_method_50_code_0 3 rfl rfl) rfl hl (by decide) rfl (fun ls hl => ?_)
  refine lv_iload_n hx hb (D_26 W_prog_20_method_50_code_0 4 rfl rfl) rfl (lv_at hl 1 rfl) ?_
  refine lv_iload_n hx hb (D_27 W_prog_20_method_50_code_0 5 rfl rfl) rfl (lv_at hl 2 rfl) ?_
  refine zxor_r hx hb (D_130 W_prog_20_method_50_code_0 6 rfl rfl) ?_
  obtain ⟨g2, hf⟩ := gif hf
  refine z0ge (tgt := 18) hx hb g2 (D_156 W_prog_20_method_50_code_0 7 rfl rfl rfl) (by decide) (fun h3 => ?_) (fun h3 => ?_)
  · replace hf := gpos hf h3
    exact b_Math_floorMod_18 X hf hZ hS (lv_sub hl [0] rfl)
  · replace hf := gneg hf h3
    refine lv_iload_n hx hb (D_28 W_prog_20_method_50_code_0 10 rfl rfl) rfl (lv_at hl 0 rfl) ?_
    obtain ⟨g4, hf⟩ := gif hf
    refine z0eq (tgt := 18) hx hb g4 (D_153 W_prog_20_method_50_code_0 11 rfl rfl rfl) (by decide) (fun h5 => ?_) (fun h5 => ?_)
    · replace hf := gpos hf h5
      exact b_Math_floorMod_18 X hf hZ hS (lv_sub hl [0] rfl)
    · replace hf := gneg hf h5
      refine lv_iload_n hx hb (D_28 W_prog_20_method_50_code_0 14 rfl rfl) rfl (lv_at hl 0 rfl) ?_
      refine lv_iload_n hx hb (D_27 W_prog_20_method_50_code_0 15 rfl rfl) rfl (lv_at hl 2 rfl) ?_
      refine zadd hx hb (D_96 W_prog_20_method_50_code_0 16 rfl rfl) ?_
      cases hf
      exact W.iret hx hb hr (fun t ht hW => ⟨⟨_, (), rfl, rfl, by rw [ht]; exact hZ, va_K.moved hW.alike hK⟩, hS.F ht⟩) hS.2.2 (D_172 W_prog_20_method_50_code_0 17 rfl rfl) hlk

