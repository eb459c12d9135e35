theorem k_2_128 : (Jvm.Cond.fieldLink "StaveHouse" (18 : Nat) "StaveHouse" "waiting" "[I") ∈ wAll := wA_2 (j := 128) rfl rfl
theorem k_1_42 : (Jvm.Cond.fieldLink "StaveHouse$ByteRow" (21 : Nat) "StaveHouse$ByteRow" "size" "I") ∈ wAll := wA_1 (j := 42) rfl rfl
theorem k_1_41 : (Jvm.Cond.fieldLink "StaveHouse$ByteRow" (15 : Nat) "StaveHouse$ByteRow" "bytes" "[I") ∈ wAll := wA_1 (j := 41) rfl rfl
theorem k_1_48 : (Jvm.Cond.fieldLink "StaveHouse$ByteRow" (25 : Nat) "StaveHouse$ByteRow" "full" "Z") ∈ wAll := wA_1 (j := 48) rfl rfl
theorem k_2_190 : (Jvm.Cond.fieldLink "StaveHouse$Piece" (17 : Nat) "StaveHouse$Piece" "partCount" "I") ∈ wAll := wA_2 (j := 190) rfl rfl
theorem k_2_195 : (Jvm.Cond.fieldLink "StaveHouse$Piece" (21 : Nat) "StaveHouse$Piece" "fifths" "I") ∈ wAll := wA_2 (j := 195) rfl rfl
theorem k_2_202 : (Jvm.Cond.fieldLink "StaveHouse$Piece" (24 : Nat) "StaveHouse$Piece" "minor" "I") ∈ wAll := wA_2 (j := 202) rfl rfl
theorem k_2_207 : (Jvm.Cond.fieldLink "StaveHouse$Piece" (27 : Nat) "StaveHouse$Piece" "above" "I") ∈ wAll := wA_2 (j := 207) rfl rfl
theorem k_2_212 : (Jvm.Cond.fieldLink "StaveHouse$Piece" (30 : Nat) "StaveHouse$Piece" "below" "I") ∈ wAll := wA_2 (j := 212) rfl rfl
theorem k_2_217 : (Jvm.Cond.fieldLink "StaveHouse$Piece" (33 : Nat) "StaveHouse$Piece" "tempo" "I") ∈ wAll := wA_2 (j := 217) rfl rfl
theorem k_2_222 : (Jvm.Cond.fieldLink "StaveHouse$Piece" (36 : Nat) "StaveHouse$Piece" "bars" "I") ∈ wAll := wA_2 (j := 222) rfl rfl
theorem k_2_228 : (Jvm.Cond.fieldLink "StaveHouse$Piece" (39 : Nat) "StaveHouse$Piece" "performed" "Z") ∈ wAll := wA_2 (j := 228) rfl rfl
theorem k_2_230 : (Jvm.Cond.fieldLink "StaveHouse$Piece" (43 : Nat) "StaveHouse$Piece" "sounded" "Z") ∈ wAll := wA_2 (j := 230) rfl rfl
theorem k_2_232 : (Jvm.Cond.fieldLink "StaveHouse$Piece" (46 : Nat) "StaveHouse$Piece" "studied" "Z") ∈ wAll := wA_2 (j := 232) rfl rfl
theorem k_2_224 : (Jvm.Cond.fieldLink "StaveHouse$Piece" (49 : Nat) "StaveHouse$Piece" "layout" "LStaveHouse$Layout;") ∈ wAll := wA_2 (j := 224) rfl rfl
theorem k_6_216 : (Jvm.Cond.fieldLink "StaveHouse$Piece" (53 : Nat) "StaveHouse$Layout" "lineCount" "I") ∈ wAll := wA_6 (j := 216) rfl rfl
theorem k_3_34 : (Jvm.Cond.methodLink "StaveHouse$Tokens" (28 : Nat) ({ cls := "StaveHouse$ByteRow", name := "at", desc := "(I)I" } : Jvm.MethodName)) ∈ wAll := wA_3 (j := 34) rfl rfl
theorem k_3_35 : (Jvm.Cond.instanceMethod ({ cls := "StaveHouse$ByteRow", name := "at", desc := "(I)I" } : Jvm.MethodName)) ∈ wAll := wA_3 (j := 35) rfl rfl
theorem k_3_36 : (Jvm.Cond.selects "StaveHouse$ByteRow" ({ cls := "StaveHouse$ByteRow", name := "at", desc := "(I)I" } : Jvm.MethodName) ({ cls := "StaveHouse$ByteRow", name := "at", desc := "(I)I" } : Jvm.MethodName)) ∈ wAll := wA_3 (j := 36) rfl rfl
theorem k_1_2 : (Jvm.Cond.initialized "StaveHouse$ByteRow") ∈ wAll := wA_1 (j := 2) rfl rfl
theorem k_3_37 : (Jvm.Cond.code ({ cls := "StaveHouse$ByteRow", name := "at", desc := "(I)I" } : Jvm.MethodName) prog_2_method_3_code (2 : Nat) (Option.some Jvm.ClassFile.FieldType.int)) ∈ wAll := wA_3 (j := 37) rfl rfl
theorem k_1_82 : (Jvm.Cond.fieldLink "StaveHouse$Tokens" (9 : Nat) "StaveHouse$Tokens" "kinds" "[I") ∈ wAll := wA_1 (j := 82) rfl rfl
theorem k_1_84 : (Jvm.Cond.fieldLink "StaveHouse$Tokens" (18 : Nat) "StaveHouse$Tokens" "values" "[J") ∈ wAll := wA_1 (j := 84) rfl rfl
theorem k_3_122 : (Jvm.Cond.methodLink "java/lang/String" (1062 : Nat) ({ cls := "jdk/internal/util/Preconditions", name := "checkFromToIndex", desc := "(IIILjava/util/function/BiFunction;)I" } : Jvm.MethodName)) ∈ wAll := wA_3 (j := 122) rfl rfl
theorem k_3_123 : (Jvm.Cond.static ({ cls := "jdk/internal/util/Preconditions", name := "checkFromToIndex", desc := "(IIILjava/util/function/BiFunction;)I" } : Jvm.MethodName)) ∈ wAll := wA_3 (j := 123) rfl rfl
theorem k_3_124 : (Jvm.Cond.code ({ cls := "jdk/internal/util/Preconditions", name := "checkFromToIndex", desc := "(IIILjava/util/function/BiFunction;)I" } : Jvm.MethodName) prog_24_method_12_code (4 : Nat) (Option.some Jvm.ClassFile.FieldType.int)) ∈ wAll := wA_3 (j := 124) rfl rfl
theorem k_1_85 : (Jvm.Cond.fieldLink "StaveHouse$Tokens" (54 : Nat) "StaveHouse$Tokens" "next" "I") ∈ wAll := wA_1 (j := 85) rfl rfl
theorem k_1_73 : (Jvm.Cond.fieldLink "StaveHouse$Tokens" (60 : Nat) "StaveHouse$Tokens" "kind" "I") ∈ wAll := wA_1 (j := 73) rfl rfl
theorem k_1_83 : (Jvm.Cond.fieldLink "StaveHouse$Tokens" (15 : Nat) "StaveHouse$Tokens" "places" "[I") ∈ wAll := wA_1 (j := 83) rfl rfl
theorem k_1_74 : (Jvm.Cond.fieldLink "StaveHouse$Tokens" (63 : Nat) "StaveHouse$Tokens" "place" "I") ∈ wAll := wA_1 (j := 74) rfl rfl
theorem k_1_76 : (Jvm.Cond.fieldLink "StaveHouse$Tokens" (66 : Nat) "StaveHouse$Tokens" "value" "J") ∈ wAll := wA_1 (j := 76) rfl rfl
theorem k_1_78 : (Jvm.Cond.fieldLink "StaveHouse$Tokens" (70 : Nat) "StaveHouse$Tokens" "step" "I") ∈ wAll := wA_1 (j := 78) rfl rfl
theorem k_1_80 : (Jvm.Cond.fieldLink "StaveHouse$Tokens" (73 : Nat) "StaveHouse$Tokens" "alteration" "I") ∈ wAll := wA_1 (j := 80) rfl rfl
theorem k_1_128 : (Jvm.Cond.fieldLink "StaveHouse$Parser" (48 : Nat) "StaveHouse$Parser" "token" "LStaveHouse$Tokens;") ∈ wAll := wA_1 (j := 128) rfl rfl
theorem k_3_168 : (Jvm.Cond.constantLong "StaveHouse$Parser" (116 : Nat) (7038329 : Int64)) ∈ wAll := wA_3 (j := 168) rfl rfl
theorem k_3_160 : (Jvm.Cond.methodLink "StaveHouse$Parser" (88 : Nat) ({ cls := "StaveHouse$Tokens", name := "isWord", desc := "(J)Z" } : Jvm.MethodName)) ∈ wAll := wA_3 (j := 160) rfl rfl
theorem k_3_161 : (Jvm.Cond.instanceMethod ({ cls := "StaveHouse$Tokens", name := "isWord", desc := "(J)Z" } : Jvm.MethodName)) ∈ wAll := wA_3 (j := 161) rfl rfl
theorem k_3_162 : (Jvm.Cond.selects "StaveHouse$Tokens" ({ cls := "StaveHouse$Tokens", name := "isWord", desc := "(J)Z" } : Jvm.MethodName) ({ cls := "StaveHouse$Tokens", name := "isWord", desc := "(J)Z" } : Jvm.MethodName)) ∈ wAll := wA_3 (j := 162) rfl rfl
theorem k_1_5 : (Jvm.Cond.initialized "StaveHouse$Tokens") ∈ wAll := wA_1 (j := 5) rfl rfl
theorem k_3_163 : (Jvm.Cond.code ({ cls := "StaveHouse$Tokens", name := "isWord", desc := "(J)Z" } : Jvm.MethodName) prog_12_method_5_code (3 : Nat) (Option.some Jvm.ClassFile.FieldType.boolean)) ∈ wAll := wA_3 (j := 163) rfl rfl
theorem k_3_169 : (Jvm.Cond.constantLong "StaveHouse$Parser" (118 : Nat) (1953066341 : Int64)) ∈ wAll := wA_3 (j := 169) rfl rfl
theorem k_3_170 : (Jvm.Cond.constantLong "StaveHouse$Parser" (120 : Nat) (499917877359 : Int64)) ∈ wAll := wA_3 (j := 170) rfl rfl
theorem k_1_131 : (Jvm.Cond.fieldLink "StaveHouse$Parser" (59 : Nat) "StaveHouse$Parser" "items" "I") ∈ wAll := wA_1 (j := 131) rfl rfl
theorem k_3_179 : (Jvm.Cond.methodLink "StaveHouse$Parser" (229 : Nat) ({ cls := "java/lang/Math", name := "min", desc := "(II)I" } : Jvm.MethodName)) ∈ wAll := wA_3 (j := 179) rfl rfl
theorem k_3_97 : (Jvm.Cond.static ({ cls := "java/lang/Math", name := "min", desc := "(II)I" } : Jvm.MethodName)) ∈ wAll := wA_3 (j := 97) rfl rfl
theorem k_1_3 : (Jvm.Cond.initialized "java/lang/Math") ∈ wAll := wA_1 (j := 3) rfl rfl
theorem k_3_98 : (Jvm.Cond.code ({ cls := "java/lang/Math", name := "min", desc := "(II)I" } : Jvm.MethodName) prog_20_method_69_code (2 : Nat) (Option.some Jvm.ClassFile.FieldType.int)) ∈ wAll := wA_3 (j := 98) rfl rfl
theorem k_1_106 : (Jvm.Cond.fieldLink "StaveHouse$Parser" (9 : Nat) "StaveHouse$Parser" "kind" "[I") ∈ wAll := wA_1 (j := 106) rfl rfl
theorem k_1_108 : (Jvm.Cond.fieldLink "StaveHouse$Parser" (15 : Nat) "StaveHouse$Parser" "place" "[I") ∈ wAll := wA_1 (j := 108) rfl rfl
theorem k_1_75 : (Jvm.Cond.fieldLink "StaveHouse$Parser" (110 : Nat) "StaveHouse$Tokens" "place" "I") ∈ wAll := wA_1 (j := 75) rfl rfl
theorem k_1_110 : (Jvm.Cond.fieldLink "StaveHouse$Parser" (18 : Nat) "StaveHouse$Parser" "first" "[I") ∈ wAll := wA_1 (j := 110) rfl rfl
theorem k_1_112 : (Jvm.Cond.fieldLink "StaveHouse$Parser" (21 : Nat) "StaveHouse$Parser" "second" "[I") ∈ wAll := wA_1 (j := 112) rfl rfl
theorem k_1_114 : (Jvm.Cond.fieldLink "StaveHouse$Parser" (24 : Nat) "StaveHouse$Parser" "child" "[I") ∈ wAll := wA_1 (j := 114) rfl rfl
theorem k_1_116 : (Jvm.Cond.fieldLink "StaveHouse$Parser" (27 : Nat) "StaveHouse$Parser" "next" "[I") ∈ wAll := wA_1 (j := 116) rfl rfl
theorem k_1_118 : (Jvm.Cond.fieldLink "StaveHouse$Parser" (30 : Nat) "StaveHouse$Parser" "count" "[I") ∈ wAll := wA_1 (j := 118) rfl rfl
theorem k_1_120 : (Jvm.Cond.fieldLink "StaveHouse$Parser" (33 : Nat) "StaveHouse$Parser" "marks" "[I") ∈ wAll := wA_1 (j := 120) rfl rfl
theorem k_1_77 : (Jvm.Cond.fieldLink "StaveHouse$Parser" (173 : Nat) "StaveHouse$Tokens" "value" "J") ∈ wAll := wA_1 (j := 77) rfl rfl
theorem k_1_72 : (Jvm.Cond.fieldLink "StaveHouse$Parser" (108 : Nat) "StaveHouse$Tokens" "kind" "I") ∈ wAll := wA_1 (j := 72) rfl rfl
theorem k_1_138 : (Jvm.Cond.fieldLink "StaveHouse$Parser" (75 : Nat) "StaveHouse$Parser" "wrong" "I") ∈ wAll := wA_1 (j := 138) rfl rfl
theorem k_1_133 : (Jvm.Cond.fieldLink "StaveHouse$Parser" (66 : Nat) "StaveHouse$Parser" "lets" "I") ∈ wAll := wA_1 (j := 133) rfl rfl
theorem k_1_129 : (Jvm.Cond.fieldLink "StaveHouse$Parser" (52 : Nat) "StaveHouse$Parser" "letNames" "[J") ∈ wAll := wA_1 (j := 129) rfl rfl
theorem k_1_130 : (Jvm.Cond.fieldLink "StaveHouse$Parser" (56 : Nat) "StaveHouse$Parser" "letItems" "[I") ∈ wAll := wA_1 (j := 130) rfl rfl
theorem k_3_208 : (Jvm.Cond.methodLink "StaveHouse$Parser" (153 : Nat) ({ cls := "StaveHouse$Tokens", name := "isSign", desc := "(C)Z" } : Jvm.MethodName)) ∈ wAll := wA_3 (j := 208) rfl rfl
theorem k_3_209 : (Jvm.Cond.instanceMethod ({ cls := "StaveHouse$Tokens", name := "isSign", desc := "(C)Z" } : Jvm.MethodName)) ∈ wAll := wA_3 (j := 209) rfl rfl
theorem k_3_210 : (Jvm.Cond.selects "StaveHouse$Tokens" ({ cls := "StaveHouse$Tokens", name := "isSign", desc := "(C)Z" } : Jvm.MethodName) ({ cls := "StaveHouse$Tokens", name := "isSign", desc := "(C)Z" } : Jvm.MethodName)) ∈ wAll := wA_3 (j := 210) rfl rfl
theorem k_3_211 : (Jvm.Cond.code ({ cls := "StaveHouse$Tokens", name := "isSign", desc := "(C)Z" } : Jvm.MethodName) prog_12_method_4_code (2 : Nat) (Option.some Jvm.ClassFile.FieldType.boolean)) ∈ wAll := wA_3 (j := 211) rfl rfl
theorem k_1_135 : (Jvm.Cond.fieldLink "StaveHouse$Parser" (72 : Nat) "StaveHouse$Parser" "depth" "I") ∈ wAll := wA_1 (j := 135) rfl rfl
theorem k_3_180 : (Jvm.Cond.methodLink "StaveHouse$Parser" (122 : Nat) ({ cls := "StaveHouse$Tokens", name := "advance", desc := "()V" } : Jvm.MethodName)) ∈ wAll := wA_3 (j := 180) rfl rfl
theorem k_3_152 : (Jvm.Cond.instanceMethod ({ cls := "StaveHouse$Tokens", name := "advance", desc := "()V" } : Jvm.MethodName)) ∈ wAll := wA_3 (j := 152) rfl rfl
theorem k_3_153 : (Jvm.Cond.selects "StaveHouse$Tokens" ({ cls := "StaveHouse$Tokens", name := "advance", desc := "()V" } : Jvm.MethodName) ({ cls := "StaveHouse$Tokens", name := "advance", desc := "()V" } : Jvm.MethodName)) ∈ wAll := wA_3 (j := 153) rfl rfl
theorem k_3_154 : (Jvm.Cond.code ({ cls := "StaveHouse$Tokens", name := "advance", desc := "()V" } : Jvm.MethodName) prog_12_method_3_code (1 : Nat) (Option.none : Option Jvm.ClassFile.FieldType)) ∈ wAll := wA_3 (j := 154) rfl rfl
theorem k_3_196 : (Jvm.Cond.methodLink "StaveHouse$Parser" (101 : Nat) ({ cls := "StaveHouse$Parser", name := "refuse", desc := "(I)Z" } : Jvm.MethodName)) ∈ wAll := wA_3 (j := 196) rfl rfl
theorem k_3_198 : (Jvm.Cond.instanceMethod ({ cls := "StaveHouse$Parser", name := "refuse", desc := "(I)Z" } : Jvm.MethodName)) ∈ wAll := wA_3 (j := 198) rfl rfl
theorem ks_7 : (Jvm.Cond.selects "StaveHouse$Parser" ({ cls := "StaveHouse$Parser", name := "refuse", desc := "(I)Z" } : Jvm.MethodName) ({ cls := "StaveHouse$Parser", name := "refuse", desc := "(I)Z" } : Jvm.MethodName)) ∈ wAll := wA_s (j := 7) rfl rfl
theorem k_1_4 : (Jvm.Cond.initialized "StaveHouse$Parser") ∈ wAll := wA_1 (j := 4) rfl rfl
theorem k_3_199 : (Jvm.Cond.code ({ cls := "StaveHouse$Parser", name := "refuse", desc := "(I)Z" } : Jvm.MethodName) prog_5_method_3_code (2 : Nat) (Option.some Jvm.ClassFile.FieldType.boolean)) ∈ wAll := wA_3 (j := 199) rfl rfl
theorem k_3_192 : (Jvm.Cond.fieldLink "StaveHouse$Parser" (218 : Nat) "StaveHouse$Parser" "BEGINNERS" "[J") ∈ wAll := wA_3 (j := 192) rfl rfl
theorem k_3_187 : (Jvm.Cond.methodLink "StaveHouse$Parser" (193 : Nat) ({ cls := "StaveHouse$Parser", name := "indexOf", desc := "([JJ)I" } : Jvm.MethodName)) ∈ wAll := wA_3 (j := 187) rfl rfl
theorem k_3_188 : (Jvm.Cond.static ({ cls := "StaveHouse$Parser", name := "indexOf", desc := "([JJ)I" } : Jvm.MethodName)) ∈ wAll := wA_3 (j := 188) rfl rfl
theorem k_3_189 : (Jvm.Cond.code ({ cls := "StaveHouse$Parser", name := "indexOf", desc := "([JJ)I" } : Jvm.MethodName) prog_5_method_13_code (4 : Nat) (Option.some Jvm.ClassFile.FieldType.int)) ∈ wAll := wA_3 (j := 189) rfl rfl
theorem k_3_228 : (Jvm.Cond.constantLong "StaveHouse$Parser" (250 : Nat) (114 : Int64)) ∈ wAll := wA_3 (j := 228) rfl rfl
theorem k_1_132 : (Jvm.Cond.fieldLink "StaveHouse$Parser" (63 : Nat) "StaveHouse$Parser" "pitches" "I") ∈ wAll := wA_1 (j := 132) rfl rfl
theorem k_1_122 : (Jvm.Cond.fieldLink "StaveHouse$Parser" (36 : Nat) "StaveHouse$Parser" "pitchSteps" "[I") ∈ wAll := wA_1 (j := 122) rfl rfl
theorem k_1_79 : (Jvm.Cond.fieldLink "StaveHouse$Parser" (290 : Nat) "StaveHouse$Tokens" "step" "I") ∈ wAll := wA_1 (j := 79) rfl rfl
theorem k_1_124 : (Jvm.Cond.fieldLink "StaveHouse$Parser" (39 : Nat) "StaveHouse$Parser" "pitchAlterations" "[I") ∈ wAll := wA_1 (j := 124) rfl rfl
theorem k_1_81 : (Jvm.Cond.fieldLink "StaveHouse$Parser" (293 : Nat) "StaveHouse$Tokens" "alteration" "I") ∈ wAll := wA_1 (j := 81) rfl rfl
theorem k_1_126 : (Jvm.Cond.fieldLink "StaveHouse$Parser" (42 : Nat) "StaveHouse$Parser" "pitchPlaces" "[I") ∈ wAll := wA_1 (j := 126) rfl rfl
theorem k_4_16 : (Jvm.Cond.constantLong "java/lang/Long" (314 : Nat) (6148914691236517205 : Int64)) ∈ wAll := wA_4 (j := 16) rfl rfl
theorem k_4_17 : (Jvm.Cond.constantLong "java/lang/Long" (316 : Nat) (3689348814741910323 : Int64)) ∈ wAll := wA_4 (j := 17) rfl rfl
theorem k_4_18 : (Jvm.Cond.constantLong "java/lang/Long" (318 : Nat) (1085102592571150095 : Int64)) ∈ wAll := wA_4 (j := 18) rfl rfl
theorem k_3_190 : (Jvm.Cond.fieldLink "StaveHouse$Parser" (215 : Nat) "StaveHouse$Parser" "LOUDS" "[J") ∈ wAll := wA_3 (j := 190) rfl rfl
theorem k_1_50 : (Jvm.Cond.laysFinal "StaveHouse$ByteRow" "StaveHouse$ByteRow" "bytes" "[I") ∈ wAll := wA_1 (j := 50) rfl rfl
theorem k_1_52 : (Jvm.Cond.lays "StaveHouse$ByteRow" "StaveHouse$ByteRow" "size" "I") ∈ wAll := wA_1 (j := 52) rfl rfl
theorem k_1_54 : (Jvm.Cond.lays "StaveHouse$ByteRow" "StaveHouse$ByteRow" "full" "Z") ∈ wAll := wA_1 (j := 54) rfl rfl
theorem k_6_230 : (Jvm.Cond.lays "StaveHouse$Layout" "StaveHouse$Layout" "lineCount" "I") ∈ wAll := wA_6 (j := 230) rfl rfl
theorem k_6_232 : (Jvm.Cond.laysFinal "StaveHouse$Layout" "StaveHouse$Layout" "columnPlaces" "[J") ∈ wAll := wA_6 (j := 232) rfl rfl
theorem k_6_234 : (Jvm.Cond.laysFinal "StaveHouse$Layout" "StaveHouse$Layout" "columnWidths" "[I") ∈ wAll := wA_6 (j := 234) rfl rfl
theorem k_6_236 : (Jvm.Cond.laysFinal "StaveHouse$Layout" "StaveHouse$Layout" "columnXs" "[I") ∈ wAll := wA_6 (j := 236) rfl rfl
theorem k_6_238 : (Jvm.Cond.lays "StaveHouse$Layout" "StaveHouse$Layout" "columns" "I") ∈ wAll := wA_6 (j := 238) rfl rfl
theorem k_7_0 : (Jvm.Cond.laysFinal "StaveHouse$Layout" "StaveHouse$Layout" "barFirsts" "[I") ∈ wAll := wA_7 (j := 0) rfl rfl
theorem k_7_2 : (Jvm.Cond.laysFinal "StaveHouse$Layout" "StaveHouse$Layout" "barWidths" "[I") ∈ wAll := wA_7 (j := 2) rfl rfl
theorem k_7_4 : (Jvm.Cond.laysFinal "StaveHouse$Layout" "StaveHouse$Layout" "lineFirsts" "[I") ∈ wAll := wA_7 (j := 4) rfl rfl
theorem k_7_6 : (Jvm.Cond.laysFinal "StaveHouse$Layout" "StaveHouse$Layout" "lineWidths" "[I") ∈ wAll := wA_7 (j := 6) rfl rfl
theorem k_7_8 : (Jvm.Cond.laysFinal "StaveHouse$Layout" "StaveHouse$Layout" "linePrices" "[J") ∈ wAll := wA_7 (j := 8) rfl rfl
theorem k_7_10 : (Jvm.Cond.laysFinal "StaveHouse$Layout" "StaveHouse$Layout" "best" "[J") ∈ wAll := wA_7 (j := 10) rfl rfl
theorem k_7_12 : (Jvm.Cond.laysFinal "StaveHouse$Layout" "StaveHouse$Layout" "breaks" "[I") ∈ wAll := wA_7 (j := 12) rfl rfl
theorem k_7_14 : (Jvm.Cond.laysFinal "StaveHouse$Layout" "StaveHouse$Layout" "nexts" "[I") ∈ wAll := wA_7 (j := 14) rfl rfl
theorem k_1_139 : (Jvm.Cond.laysFinal "StaveHouse$Parser" "StaveHouse$Parser" "kind" "[I") ∈ wAll := wA_1 (j := 139) rfl rfl
theorem k_1_141 : (Jvm.Cond.laysFinal "StaveHouse$Parser" "StaveHouse$Parser" "place" "[I") ∈ wAll := wA_1 (j := 141) rfl rfl
theorem k_1_143 : (Jvm.Cond.laysFinal "StaveHouse$Parser" "StaveHouse$Parser" "first" "[I") ∈ wAll := wA_1 (j := 143) rfl rfl
theorem k_1_145 : (Jvm.Cond.laysFinal "StaveHouse$Parser" "StaveHouse$Parser" "second" "[I") ∈ wAll := wA_1 (j := 145) rfl rfl
theorem k_1_147 : (Jvm.Cond.laysFinal "StaveHouse$Parser" "StaveHouse$Parser" "child" "[I") ∈ wAll := wA_1 (j := 147) rfl rfl
theorem k_1_149 : (Jvm.Cond.laysFinal "StaveHouse$Parser" "StaveHouse$Parser" "next" "[I") ∈ wAll := wA_1 (j := 149) rfl rfl
theorem k_1_151 : (Jvm.Cond.laysFinal "StaveHouse$Parser" "StaveHouse$Parser" "count" "[I") ∈ wAll := wA_1 (j := 151) rfl rfl
theorem k_1_153 : (Jvm.Cond.laysFinal "StaveHouse$Parser" "StaveHouse$Parser" "marks" "[I") ∈ wAll := wA_1 (j := 153) rfl rfl
theorem k_1_155 : (Jvm.Cond.laysFinal "StaveHouse$Parser" "StaveHouse$Parser" "pitchSteps" "[I") ∈ wAll := wA_1 (j := 155) rfl rfl
theorem k_1_157 : (Jvm.Cond.laysFinal "StaveHouse$Parser" "StaveHouse$Parser" "pitchAlterations" "[I") ∈ wAll := wA_1 (j := 157) rfl rfl
theorem k_1_159 : (Jvm.Cond.laysFinal "StaveHouse$Parser" "StaveHouse$Parser" "pitchPlaces" "[I") ∈ wAll := wA_1 (j := 159) rfl rfl
theorem k_1_161 : (Jvm.Cond.laysFinal "StaveHouse$Parser" "StaveHouse$Parser" "token" "LStaveHouse$Tokens;") ∈ wAll := wA_1 (j := 161) rfl rfl
theorem k_1_163 : (Jvm.Cond.laysFinal "StaveHouse$Parser" "StaveHouse$Parser" "letNames" "[J") ∈ wAll := wA_1 (j := 163) rfl rfl
theorem k_1_165 : (Jvm.Cond.laysFinal "StaveHouse$Parser" "StaveHouse$Parser" "letItems" "[I") ∈ wAll := wA_1 (j := 165) rfl rfl
theorem k_1_167 : (Jvm.Cond.lays "StaveHouse$Parser" "StaveHouse$Parser" "items" "I") ∈ wAll := wA_1 (j := 167) rfl rfl
theorem k_1_169 : (Jvm.Cond.lays "StaveHouse$Parser" "StaveHouse$Parser" "pitches" "I") ∈ wAll := wA_1 (j := 169) rfl rfl
theorem k_1_171 : (Jvm.Cond.lays "StaveHouse$Parser" "StaveHouse$Parser" "lets" "I") ∈ wAll := wA_1 (j := 171) rfl rfl
theorem k_1_173 : (Jvm.Cond.lays "StaveHouse$Parser" "StaveHouse$Parser" "headsTold" "I") ∈ wAll := wA_1 (j := 173) rfl rfl
theorem k_1_175 : (Jvm.Cond.lays "StaveHouse$Parser" "StaveHouse$Parser" "depth" "I") ∈ wAll := wA_1 (j := 175) rfl rfl
theorem k_1_177 : (Jvm.Cond.lays "StaveHouse$Parser" "StaveHouse$Parser" "number" "I") ∈ wAll := wA_1 (j := 177) rfl rfl
theorem k_1_179 : (Jvm.Cond.lays "StaveHouse$Parser" "StaveHouse$Parser" "length" "I") ∈ wAll := wA_1 (j := 179) rfl rfl
theorem k_1_181 : (Jvm.Cond.lays "StaveHouse$Parser" "StaveHouse$Parser" "wrong" "I") ∈ wAll := wA_1 (j := 181) rfl rfl
theorem k_2_233 : (Jvm.Cond.laysFinal "StaveHouse$Piece" "StaveHouse$Piece" "parts" "[LStaveHouse$Part;") ∈ wAll := wA_2 (j := 233) rfl rfl
theorem k_2_235 : (Jvm.Cond.lays "StaveHouse$Piece" "StaveHouse$Piece" "partCount" "I") ∈ wAll := wA_2 (j := 235) rfl rfl
theorem k_2_237 : (Jvm.Cond.lays "StaveHouse$Piece" "StaveHouse$Piece" "fifths" "I") ∈ wAll := wA_2 (j := 237) rfl rfl
theorem k_2_239 : (Jvm.Cond.lays "StaveHouse$Piece" "StaveHouse$Piece" "minor" "I") ∈ wAll := wA_2 (j := 239) rfl rfl
theorem k_3_1 : (Jvm.Cond.lays "StaveHouse$Piece" "StaveHouse$Piece" "above" "I") ∈ wAll := wA_3 (j := 1) rfl rfl
theorem k_3_3 : (Jvm.Cond.lays "StaveHouse$Piece" "StaveHouse$Piece" "below" "I") ∈ wAll := wA_3 (j := 3) rfl rfl
theorem k_3_5 : (Jvm.Cond.lays "StaveHouse$Piece" "StaveHouse$Piece" "tempo" "I") ∈ wAll := wA_3 (j := 5) rfl rfl
theorem k_3_7 : (Jvm.Cond.lays "StaveHouse$Piece" "StaveHouse$Piece" "bars" "I") ∈ wAll := wA_3 (j := 7) rfl rfl
theorem k_3_9 : (Jvm.Cond.lays "StaveHouse$Piece" "StaveHouse$Piece" "layout" "LStaveHouse$Layout;") ∈ wAll := wA_3 (j := 9) rfl rfl
theorem k_3_11 : (Jvm.Cond.lays "StaveHouse$Piece" "StaveHouse$Piece" "performance" "LStaveHouse$Performance;") ∈ wAll := wA_3 (j := 11) rfl rfl
theorem k_3_13 : (Jvm.Cond.lays "StaveHouse$Piece" "StaveHouse$Piece" "performed" "Z") ∈ wAll := wA_3 (j := 13) rfl rfl
theorem k_3_15 : (Jvm.Cond.lays "StaveHouse$Piece" "StaveHouse$Piece" "sounded" "Z") ∈ wAll := wA_3 (j := 15) rfl rfl
theorem k_3_17 : (Jvm.Cond.lays "StaveHouse$Piece" "StaveHouse$Piece" "study" "LStaveHouse$Study;") ∈ wAll := wA_3 (j := 17) rfl rfl
theorem k_3_19 : (Jvm.Cond.lays "StaveHouse$Piece" "StaveHouse$Piece" "studied" "Z") ∈ wAll := wA_3 (j := 19) rfl rfl
theorem k_1_86 : (Jvm.Cond.lays "StaveHouse$Tokens" "StaveHouse$Tokens" "kind" "I") ∈ wAll := wA_1 (j := 86) rfl rfl
theorem k_1_88 : (Jvm.Cond.lays "StaveHouse$Tokens" "StaveHouse$Tokens" "place" "I") ∈ wAll := wA_1 (j := 88) rfl rfl
theorem k_1_90 : (Jvm.Cond.lays "StaveHouse$Tokens" "StaveHouse$Tokens" "value" "J") ∈ wAll := wA_1 (j := 90) rfl rfl
theorem k_1_92 : (Jvm.Cond.lays "StaveHouse$Tokens" "StaveHouse$Tokens" "step" "I") ∈ wAll := wA_1 (j := 92) rfl rfl
theorem k_1_94 : (Jvm.Cond.lays "StaveHouse$Tokens" "StaveHouse$Tokens" "alteration" "I") ∈ wAll := wA_1 (j := 94) rfl rfl
theorem k_1_96 : (Jvm.Cond.laysFinal "StaveHouse$Tokens" "StaveHouse$Tokens" "kinds" "[I") ∈ wAll := wA_1 (j := 96) rfl rfl
theorem k_1_98 : (Jvm.Cond.laysFinal "StaveHouse$Tokens" "StaveHouse$Tokens" "places" "[I") ∈ wAll := wA_1 (j := 98) rfl rfl
theorem k_1_100 : (Jvm.Cond.laysFinal "StaveHouse$Tokens" "StaveHouse$Tokens" "values" "[J") ∈ wAll := wA_1 (j := 100) rfl rfl
theorem k_1_102 : (Jvm.Cond.lays "StaveHouse$Tokens" "StaveHouse$Tokens" "next" "I") ∈ wAll := wA_1 (j := 102) rfl rfl
theorem k_2_137 : (Jvm.Cond.laysFinal "StaveHouse" "StaveHouse" "tape" "LStaveHouse$ByteRow;") ∈ wAll := wA_2 (j := 137) rfl rfl
theorem k_2_139 : (Jvm.Cond.laysFinal "StaveHouse" "StaveHouse" "waiting" "[I") ∈ wAll := wA_2 (j := 139) rfl rfl
theorem k_2_141 : (Jvm.Cond.laysFinal "StaveHouse" "StaveHouse" "written" "LStaveHouse$ByteRow;") ∈ wAll := wA_2 (j := 141) rfl rfl
theorem k_2_143 : (Jvm.Cond.laysFinal "StaveHouse" "StaveHouse" "pieces" "[LStaveHouse$Piece;") ∈ wAll := wA_2 (j := 143) rfl rfl
theorem k_2_145 : (Jvm.Cond.laysFinal "StaveHouse" "StaveHouse" "parser" "LStaveHouse$Parser;") ∈ wAll := wA_2 (j := 145) rfl rfl
theorem k_2_147 : (Jvm.Cond.laysFinal "StaveHouse" "StaveHouse" "walker" "LStaveHouse$Walker;") ∈ wAll := wA_2 (j := 147) rfl rfl
theorem k_2_149 : (Jvm.Cond.laysFinal "StaveHouse" "StaveHouse" "scribe" "LStaveHouse$Scribe;") ∈ wAll := wA_2 (j := 149) rfl rfl
theorem k_2_151 : (Jvm.Cond.lays "StaveHouse" "StaveHouse" "spare" "LStaveHouse$Piece;") ∈ wAll := wA_2 (j := 151) rfl rfl
theorem k_2_153 : (Jvm.Cond.lays "StaveHouse" "StaveHouse" "opened" "LStaveHouse$SoundFile;") ∈ wAll := wA_2 (j := 153) rfl rfl
theorem k_2_155 : (Jvm.Cond.lays "StaveHouse" "StaveHouse" "spareFile" "LStaveHouse$SoundFile;") ∈ wAll := wA_2 (j := 155) rfl rfl
theorem W_prog_24_method_12_code_0 : chW prog_24_method_12_code 0 [26, 155, 0, 13, 26, 27, 163, 0, 8, 27, 28, 164, 0, 11, 45, 26, 27, 28, 184, 0, 99, 191, 26, 172] := chW_of (by decide +kernel)
theorem d_24_12_0 : decode prog_24_method_12_code 0 = .ok (.iload_n 0, 1) := D_26 W_prog_24_method_12_code_0 0 rfl rfl
theorem d_24_12_1 : decode prog_24_method_12_code 1 = .ok (.ifCond .lt 13, 3) := D_155 W_prog_24_method_12_code_0 1 rfl rfl rfl
theorem d_24_12_4 : decode prog_24_method_12_code 4 = .ok (.iload_n 0, 1) := D_26 W_prog_24_method_12_code_0 4 rfl rfl
theorem d_24_12_5 : decode prog_24_method_12_code 5 = .ok (.iload_n 1, 1) := D_27 W_prog_24_method_12_code_0 5 rfl rfl
theorem d_24_12_6 : decode prog_24_method_12_code 6 = .ok (.if_icmp .gt 8, 3) := D_163 W_prog_24_method_12_code_0 6 rfl rfl rfl
theorem d_24_12_9 : decode prog_24_method_12_code 9 = .ok (.iload_n 1, 1) := D_27 W_prog_24_method_12_code_0 9 rfl rfl
theorem d_24_12_10 : decode prog_24_method_12_code 10 = .ok (.iload_n 2, 1) := D_28 W_prog_24_method_12_code_0 10 rfl rfl
theorem d_24_12_11 : decode prog_24_method_12_code 11 = .ok (.if_icmp .le 11, 3) := D_164 W_prog_24_method_12_code_0 11 rfl rfl rfl
theorem d_24_12_22 : decode prog_24_method_12_code 22 = .ok (.iload_n 0, 1) := D_26 W_prog_24_method_12_code_0 22 rfl rfl
theorem d_24_12_23 : decode prog_24_method_12_code 23 = .ok (.ireturn, 1) := D_172 W_prog_24_method_12_code_0 23 rfl rfl
theorem W_prog_1_method_3_code_0 : chW prog_1_method_3_code 0 [3, 62, 29, 7, 162, 0, 38, 27, 29, 96, 16, 20, 162, 0, 30, 42, 180, 0, 18, 27, 29, 96, 28, 16, 24, 16, 8, 29, 104, 100, 124, 17, 0, 255, 126, 79] := chW_of (by decide +kernel)
theorem d_1_3_0 : decode prog_1_method_3_code 0 = .ok (.iconst 0, 1) := D_3 W_prog_1_method_3_code_0 0 rfl rfl
theorem d_1_3_1 : decode prog_1_method_3_code 1 = .ok (.istore_n 3, 1) := D_62 W_prog_1_method_3_code_0 1 rfl rfl
theorem d_1_3_2 : decode prog_1_method_3_code 2 = .ok (.iload_n 3, 1) := D_29 W_prog_1_method_3_code_0 2 rfl rfl
theorem d_1_3_3 : decode prog_1_method_3_code 3 = .ok (.iconst 4, 1) := D_7 W_prog_1_method_3_code_0 3 rfl rfl
theorem d_1_3_4 : decode prog_1_method_3_code 4 = .ok (.if_icmp .ge 38, 3) := D_162 W_prog_1_method_3_code_0 4 rfl rfl rfl
theorem d_1_3_7 : decode prog_1_method_3_code 7 = .ok (.iload_n 1, 1) := D_27 W_prog_1_method_3_code_0 7 rfl rfl
theorem d_1_3_8 : decode prog_1_method_3_code 8 = .ok (.iload_n 3, 1) := D_29 W_prog_1_method_3_code_0 8 rfl rfl
theorem d_1_3_9 : decode prog_1_method_3_code 9 = .ok (.iadd, 1) := D_96 W_prog_1_method_3_code_0 9 rfl rfl
theorem d_1_3_10 : decode prog_1_method_3_code 10 = .ok (.bipush 20, 2) := D_16 W_prog_1_method_3_code_0 10 rfl rfl rfl
theorem d_1_3_12 : decode prog_1_method_3_code 12 = .ok (.if_icmp .ge 30, 3) := D_162 W_prog_1_method_3_code_0 12 rfl rfl rfl
theorem d_1_3_15 : decode prog_1_method_3_code 15 = .ok (.aload_n 0, 1) := D_42 W_prog_1_method_3_code_0 15 rfl rfl
theorem d_1_3_16 : decode prog_1_method_3_code 16 = .ok (.getfield 18, 3) := D_180 W_prog_1_method_3_code_0 16 rfl rfl rfl
theorem d_1_3_19 : decode prog_1_method_3_code 19 = .ok (.iload_n 1, 1) := D_27 W_prog_1_method_3_code_0 19 rfl rfl
theorem d_1_3_20 : decode prog_1_method_3_code 20 = .ok (.iload_n 3, 1) := D_29 W_prog_1_method_3_code_0 20 rfl rfl
theorem d_1_3_21 : decode prog_1_method_3_code 21 = .ok (.iadd, 1) := D_96 W_prog_1_method_3_code_0 21 rfl rfl
theorem d_1_3_22 : decode prog_1_method_3_code 22 = .ok (.iload_n 2, 1) := D_28 W_prog_1_method_3_code_0 22 rfl rfl
theorem d_1_3_23 : decode prog_1_method_3_code 23 = .ok (.bipush 24, 2) := D_16 W_prog_1_method_3_code_0 23 rfl rfl rfl
theorem d_1_3_25 : decode prog_1_method_3_code 25 = .ok (.bipush 8, 2) := D_16 W_prog_1_method_3_code_0 25 rfl rfl rfl
theorem d_1_3_27 : decode prog_1_method_3_code 27 = .ok (.iload_n 3, 1) := D_29 W_prog_1_method_3_code_0 27 rfl rfl
theorem d_1_3_28 : decode prog_1_method_3_code 28 = .ok (.imul, 1) := D_104 W_prog_1_method_3_code_0 28 rfl rfl
theorem d_1_3_29 : decode prog_1_method_3_code 29 = .ok (.isub, 1) := D_100 W_prog_1_method_3_code_0 29 rfl rfl
theorem d_1_3_30 : decode prog_1_method_3_code 30 = .ok (.iushr, 1) := D_124 W_prog_1_method_3_code_0 30 rfl rfl
theorem d_1_3_31 : decode prog_1_method_3_code 31 = .ok (.sipush 255, 3) := D_17 W_prog_1_method_3_code_0 31 rfl rfl rfl
theorem W_prog_1_method_3_code_32 : chW prog_1_method_3_code 32 [0, 255, 126, 79, 132, 3, 1, 167, 255, 219, 177] := chW_of (by decide +kernel)
theorem d_1_3_34 : decode prog_1_method_3_code 34 = .ok (.iand, 1) := D_126 W_prog_1_method_3_code_32 2 rfl rfl
theorem d_1_3_35 : decode prog_1_method_3_code 35 = .ok (.iastore, 1) := D_79 W_prog_1_method_3_code_32 3 rfl rfl
theorem d_1_3_36 : decode prog_1_method_3_code 36 = .ok (.iinc 3 1, 3) := D_132 W_prog_1_method_3_code_32 4 rfl rfl rfl
theorem d_1_3_39 : decode prog_1_method_3_code 39 = .ok (.goto (-37), 3) := D_167 W_prog_1_method_3_code_32 7 rfl rfl rfl
theorem d_1_3_42 : decode prog_1_method_3_code 42 = .ok (.return_, 1) := D_177 W_prog_1_method_3_code_32 10 rfl rfl
theorem W_prog_2_method_4_code_0 : chW prog_2_method_4_code 0 [42, 180, 0, 21, 42, 180, 0, 15, 190, 161, 0, 9, 42, 4, 181, 0, 25, 177, 42, 180, 0, 15, 42, 180, 0, 21, 27, 17, 0, 255, 126, 79, 42, 89, 180, 0] := chW_of (by decide +kernel)
theorem d_2_4_0 : decode prog_2_method_4_code 0 = .ok (.aload_n 0, 1) := D_42 W_prog_2_method_4_code_0 0 rfl rfl
theorem d_2_4_1 : decode prog_2_method_4_code 1 = .ok (.getfield 21, 3) := D_180 W_prog_2_method_4_code_0 1 rfl rfl rfl
theorem d_2_4_4 : decode prog_2_method_4_code 4 = .ok (.aload_n 0, 1) := D_42 W_prog_2_method_4_code_0 4 rfl rfl
theorem d_2_4_5 : decode prog_2_method_4_code 5 = .ok (.getfield 15, 3) := D_180 W_prog_2_method_4_code_0 5 rfl rfl rfl
theorem d_2_4_8 : decode prog_2_method_4_code 8 = .ok (.arraylength, 1) := D_190 W_prog_2_method_4_code_0 8 rfl rfl
theorem d_2_4_9 : decode prog_2_method_4_code 9 = .ok (.if_icmp .lt 9, 3) := D_161 W_prog_2_method_4_code_0 9 rfl rfl rfl
theorem d_2_4_18 : decode prog_2_method_4_code 18 = .ok (.aload_n 0, 1) := D_42 W_prog_2_method_4_code_0 18 rfl rfl
theorem d_2_4_19 : decode prog_2_method_4_code 19 = .ok (.getfield 15, 3) := D_180 W_prog_2_method_4_code_0 19 rfl rfl rfl
theorem d_2_4_22 : decode prog_2_method_4_code 22 = .ok (.aload_n 0, 1) := D_42 W_prog_2_method_4_code_0 22 rfl rfl
theorem d_2_4_23 : decode prog_2_method_4_code 23 = .ok (.getfield 21, 3) := D_180 W_prog_2_method_4_code_0 23 rfl rfl rfl
theorem d_2_4_26 : decode prog_2_method_4_code 26 = .ok (.iload_n 1, 1) := D_27 W_prog_2_method_4_code_0 26 rfl rfl
theorem d_2_4_27 : decode prog_2_method_4_code 27 = .ok (.sipush 255, 3) := D_17 W_prog_2_method_4_code_0 27 rfl rfl rfl
theorem d_2_4_30 : decode prog_2_method_4_code 30 = .ok (.iand, 1) := D_126 W_prog_2_method_4_code_0 30 rfl rfl
theorem d_2_4_31 : decode prog_2_method_4_code 31 = .ok (.iastore, 1) := D_79 W_prog_2_method_4_code_0 31 rfl rfl
theorem W_prog_2_method_4_code_32 : chW prog_2_method_4_code 32 [42, 89, 180, 0, 21, 4, 96, 181, 0, 21, 177] := chW_of (by decide +kernel)
theorem d_2_4_32 : decode prog_2_method_4_code 32 = .ok (.aload_n 0, 1) := D_42 W_prog_2_method_4_code_32 0 rfl rfl
theorem d_2_4_33 : decode prog_2_method_4_code 33 = .ok (.dup, 1) := D_89 W_prog_2_method_4_code_32 1 rfl rfl
theorem d_2_4_34 : decode prog_2_method_4_code 34 = .ok (.getfield 21, 3) := D_180 W_prog_2_method_4_code_32 2 rfl rfl rfl
theorem d_2_4_37 : decode prog_2_method_4_code 37 = .ok (.iconst 1, 1) := D_4 W_prog_2_method_4_code_32 5 rfl rfl
theorem d_2_4_38 : decode prog_2_method_4_code 38 = .ok (.iadd, 1) := D_96 W_prog_2_method_4_code_32 6 rfl rfl
theorem d_2_4_39 : decode prog_2_method_4_code 39 = .ok (.putfield 21, 3) := D_181 W_prog_2_method_4_code_32 7 rfl rfl rfl
theorem d_2_4_42 : decode prog_2_method_4_code 42 = .ok (.return_, 1) := D_177 W_prog_2_method_4_code_32 10 rfl rfl
theorem d_2_4_12 : decode prog_2_method_4_code 12 = .ok (.aload_n 0, 1) := D_42 W_prog_2_method_4_code_0 12 rfl rfl
theorem d_2_4_13 : decode prog_2_method_4_code 13 = .ok (.iconst 1, 1) := D_4 W_prog_2_method_4_code_0 13 rfl rfl
theorem d_2_4_14 : decode prog_2_method_4_code 14 = .ok (.putfield 25, 3) := D_181 W_prog_2_method_4_code_0 14 rfl rfl rfl
theorem d_2_4_17 : decode prog_2_method_4_code 17 = .ok (.return_, 1) := D_177 W_prog_2_method_4_code_0 17 rfl rfl
theorem W_prog_8_method_2_code_0 : chW prog_8_method_2_code 0 [42, 3, 181, 0, 17, 42, 3, 181, 0, 21, 42, 3, 181, 0, 24, 42, 7, 181, 0, 27, 42, 7, 181, 0, 30, 42, 16, 120, 181, 0, 33, 42, 3, 181, 0, 36] := chW_of (by decide +kernel)
theorem d_8_2_0 : decode prog_8_method_2_code 0 = .ok (.aload_n 0, 1) := D_42 W_prog_8_method_2_code_0 0 rfl rfl
theorem d_8_2_1 : decode prog_8_method_2_code 1 = .ok (.iconst 0, 1) := D_3 W_prog_8_method_2_code_0 1 rfl rfl
theorem d_8_2_2 : decode prog_8_method_2_code 2 = .ok (.putfield 17, 3) := D_181 W_prog_8_method_2_code_0 2 rfl rfl rfl
theorem d_8_2_5 : decode prog_8_method_2_code 5 = .ok (.aload_n 0, 1) := D_42 W_prog_8_method_2_code_0 5 rfl rfl
theorem d_8_2_6 : decode prog_8_method_2_code 6 = .ok (.iconst 0, 1) := D_3 W_prog_8_method_2_code_0 6 rfl rfl
theorem d_8_2_7 : decode prog_8_method_2_code 7 = .ok (.putfield 21, 3) := D_181 W_prog_8_method_2_code_0 7 rfl rfl rfl
theorem d_8_2_10 : decode prog_8_method_2_code 10 = .ok (.aload_n 0, 1) := D_42 W_prog_8_method_2_code_0 10 rfl rfl
theorem d_8_2_11 : decode prog_8_method_2_code 11 = .ok (.iconst 0, 1) := D_3 W_prog_8_method_2_code_0 11 rfl rfl
theorem d_8_2_12 : decode prog_8_method_2_code 12 = .ok (.putfield 24, 3) := D_181 W_prog_8_method_2_code_0 12 rfl rfl rfl
theorem d_8_2_15 : decode prog_8_method_2_code 15 = .ok (.aload_n 0, 1) := D_42 W_prog_8_method_2_code_0 15 rfl rfl
theorem d_8_2_16 : decode prog_8_method_2_code 16 = .ok (.iconst 4, 1) := D_7 W_prog_8_method_2_code_0 16 rfl rfl
theorem d_8_2_17 : decode prog_8_method_2_code 17 = .ok (.putfield 27, 3) := D_181 W_prog_8_method_2_code_0 17 rfl rfl rfl
theorem d_8_2_20 : decode prog_8_method_2_code 20 = .ok (.aload_n 0, 1) := D_42 W_prog_8_method_2_code_0 20 rfl rfl
theorem d_8_2_21 : decode prog_8_method_2_code 21 = .ok (.iconst 4, 1) := D_7 W_prog_8_method_2_code_0 21 rfl rfl
theorem d_8_2_22 : decode prog_8_method_2_code 22 = .ok (.putfield 30, 3) := D_181 W_prog_8_method_2_code_0 22 rfl rfl rfl
theorem d_8_2_25 : decode prog_8_method_2_code 25 = .ok (.aload_n 0, 1) := D_42 W_prog_8_method_2_code_0 25 rfl rfl
theorem d_8_2_26 : decode prog_8_method_2_code 26 = .ok (.bipush 120, 2) := D_16 W_prog_8_method_2_code_0 26 rfl rfl rfl
theorem d_8_2_28 : decode prog_8_method_2_code 28 = .ok (.putfield 33, 3) := D_181 W_prog_8_method_2_code_0 28 rfl rfl rfl
theorem d_8_2_31 : decode prog_8_method_2_code 31 = .ok (.aload_n 0, 1) := D_42 W_prog_8_method_2_code_0 31 rfl rfl
theorem W_prog_8_method_2_code_32 : chW prog_8_method_2_code 32 [3, 181, 0, 36, 42, 3, 181, 0, 39, 42, 3, 181, 0, 43, 42, 3, 181, 0, 46, 42, 180, 0, 49, 198, 0, 11, 42, 180, 0, 49, 3, 181, 0, 53, 177] := chW_of (by decide +kernel)
theorem d_8_2_32 : decode prog_8_method_2_code 32 = .ok (.iconst 0, 1) := D_3 W_prog_8_method_2_code_32 0 rfl rfl
theorem d_8_2_33 : decode prog_8_method_2_code 33 = .ok (.putfield 36, 3) := D_181 W_prog_8_method_2_code_32 1 rfl rfl rfl
theorem d_8_2_36 : decode prog_8_method_2_code 36 = .ok (.aload_n 0, 1) := D_42 W_prog_8_method_2_code_32 4 rfl rfl
theorem d_8_2_37 : decode prog_8_method_2_code 37 = .ok (.iconst 0, 1) := D_3 W_prog_8_method_2_code_32 5 rfl rfl
theorem d_8_2_38 : decode prog_8_method_2_code 38 = .ok (.putfield 39, 3) := D_181 W_prog_8_method_2_code_32 6 rfl rfl rfl
theorem d_8_2_41 : decode prog_8_method_2_code 41 = .ok (.aload_n 0, 1) := D_42 W_prog_8_method_2_code_32 9 rfl rfl
theorem d_8_2_42 : decode prog_8_method_2_code 42 = .ok (.iconst 0, 1) := D_3 W_prog_8_method_2_code_32 10 rfl rfl
theorem d_8_2_43 : decode prog_8_method_2_code 43 = .ok (.putfield 43, 3) := D_181 W_prog_8_method_2_code_32 11 rfl rfl rfl
theorem d_8_2_46 : decode prog_8_method_2_code 46 = .ok (.aload_n 0, 1) := D_42 W_prog_8_method_2_code_32 14 rfl rfl
theorem d_8_2_47 : decode prog_8_method_2_code 47 = .ok (.iconst 0, 1) := D_3 W_prog_8_method_2_code_32 15 rfl rfl
theorem d_8_2_48 : decode prog_8_method_2_code 48 = .ok (.putfield 46, 3) := D_181 W_prog_8_method_2_code_32 16 rfl rfl rfl
theorem d_8_2_51 : decode prog_8_method_2_code 51 = .ok (.aload_n 0, 1) := D_42 W_prog_8_method_2_code_32 19 rfl rfl
theorem d_8_2_52 : decode prog_8_method_2_code 52 = .ok (.getfield 49, 3) := D_180 W_prog_8_method_2_code_32 20 rfl rfl rfl
theorem d_8_2_55 : decode prog_8_method_2_code 55 = .ok (.ifnull 11, 3) := D_198 W_prog_8_method_2_code_32 23 rfl rfl rfl
theorem d_8_2_58 : decode prog_8_method_2_code 58 = .ok (.aload_n 0, 1) := D_42 W_prog_8_method_2_code_32 26 rfl rfl
theorem d_8_2_59 : decode prog_8_method_2_code 59 = .ok (.getfield 49, 3) := D_180 W_prog_8_method_2_code_32 27 rfl rfl rfl
theorem d_8_2_62 : decode prog_8_method_2_code 62 = .ok (.iconst 0, 1) := D_3 W_prog_8_method_2_code_32 30 rfl rfl
theorem d_8_2_63 : decode prog_8_method_2_code 63 = .ok (.putfield 53, 3) := D_181 W_prog_8_method_2_code_32 31 rfl rfl rfl
theorem W_prog_8_method_2_code_64 : chW prog_8_method_2_code 64 [0, 53, 177] := chW_of (by decide +kernel)
theorem d_8_2_66 : decode prog_8_method_2_code 66 = .ok (.return_, 1) := D_177 W_prog_8_method_2_code_64 2 rfl rfl
theorem W_prog_2_method_3_code_0 : chW prog_2_method_3_code 0 [27, 155, 0, 11, 27, 42, 180, 0, 21, 161, 0, 7, 2, 167, 0, 9, 42, 180, 0, 15, 27, 46, 172] := chW_of (by decide +kernel)
theorem d_2_3_0 : decode prog_2_method_3_code 0 = .ok (.iload_n 1, 1) := D_27 W_prog_2_method_3_code_0 0 rfl rfl
theorem d_2_3_1 : decode prog_2_method_3_code 1 = .ok (.ifCond .lt 11, 3) := D_155 W_prog_2_method_3_code_0 1 rfl rfl rfl
theorem d_2_3_4 : decode prog_2_method_3_code 4 = .ok (.iload_n 1, 1) := D_27 W_prog_2_method_3_code_0 4 rfl rfl
theorem d_2_3_5 : decode prog_2_method_3_code 5 = .ok (.aload_n 0, 1) := D_42 W_prog_2_method_3_code_0 5 rfl rfl
theorem d_2_3_6 : decode prog_2_method_3_code 6 = .ok (.getfield 21, 3) := D_180 W_prog_2_method_3_code_0 6 rfl rfl rfl
theorem d_2_3_9 : decode prog_2_method_3_code 9 = .ok (.if_icmp .lt 7, 3) := D_161 W_prog_2_method_3_code_0 9 rfl rfl rfl
theorem d_2_3_16 : decode prog_2_method_3_code 16 = .ok (.aload_n 0, 1) := D_42 W_prog_2_method_3_code_0 16 rfl rfl
theorem d_2_3_17 : decode prog_2_method_3_code 17 = .ok (.getfield 15, 3) := D_180 W_prog_2_method_3_code_0 17 rfl rfl rfl
theorem d_2_3_20 : decode prog_2_method_3_code 20 = .ok (.iload_n 1, 1) := D_27 W_prog_2_method_3_code_0 20 rfl rfl
theorem d_2_3_21 : decode prog_2_method_3_code 21 = .ok (.iaload, 1) := D_46 W_prog_2_method_3_code_0 21 rfl rfl
theorem d_2_3_12 : decode prog_2_method_3_code 12 = .ok (.iconst (-1), 1) := D_2 W_prog_2_method_3_code_0 12 rfl rfl
theorem d_2_3_13 : decode prog_2_method_3_code 13 = .ok (.goto 9, 3) := D_167 W_prog_2_method_3_code_0 13 rfl rfl rfl
theorem d_2_3_22 : decode prog_2_method_3_code 22 = .ok (.ireturn, 1) := D_172 W_prog_2_method_3_code_0 22 rfl rfl
theorem W_prog_12_method_11_code_0 : chW prog_12_method_11_code 0 [26, 16, 9, 159, 0, 21, 26, 16, 10, 159, 0, 15, 26, 16, 13, 159, 0, 9, 26, 16, 32, 160, 0, 7, 4, 167, 0, 4, 3, 172] := chW_of (by decide +kernel)
theorem d_12_11_0 : decode prog_12_method_11_code 0 = .ok (.iload_n 0, 1) := D_26 W_prog_12_method_11_code_0 0 rfl rfl
theorem d_12_11_1 : decode prog_12_method_11_code 1 = .ok (.bipush 9, 2) := D_16 W_prog_12_method_11_code_0 1 rfl rfl rfl
theorem d_12_11_3 : decode prog_12_method_11_code 3 = .ok (.if_icmp .eq 21, 3) := D_159 W_prog_12_method_11_code_0 3 rfl rfl rfl
theorem d_12_11_6 : decode prog_12_method_11_code 6 = .ok (.iload_n 0, 1) := D_26 W_prog_12_method_11_code_0 6 rfl rfl
theorem d_12_11_7 : decode prog_12_method_11_code 7 = .ok (.bipush 10, 2) := D_16 W_prog_12_method_11_code_0 7 rfl rfl rfl
theorem d_12_11_9 : decode prog_12_method_11_code 9 = .ok (.if_icmp .eq 15, 3) := D_159 W_prog_12_method_11_code_0 9 rfl rfl rfl
theorem d_12_11_12 : decode prog_12_method_11_code 12 = .ok (.iload_n 0, 1) := D_26 W_prog_12_method_11_code_0 12 rfl rfl
theorem d_12_11_13 : decode prog_12_method_11_code 13 = .ok (.bipush 13, 2) := D_16 W_prog_12_method_11_code_0 13 rfl rfl rfl
theorem d_12_11_15 : decode prog_12_method_11_code 15 = .ok (.if_icmp .eq 9, 3) := D_159 W_prog_12_method_11_code_0 15 rfl rfl rfl
theorem d_12_11_18 : decode prog_12_method_11_code 18 = .ok (.iload_n 0, 1) := D_26 W_prog_12_method_11_code_0 18 rfl rfl
theorem d_12_11_19 : decode prog_12_method_11_code 19 = .ok (.bipush 32, 2) := D_16 W_prog_12_method_11_code_0 19 rfl rfl rfl
theorem d_12_11_21 : decode prog_12_method_11_code 21 = .ok (.if_icmp .ne 7, 3) := D_160 W_prog_12_method_11_code_0 21 rfl rfl rfl
theorem d_12_11_28 : decode prog_12_method_11_code 28 = .ok (.iconst 0, 1) := D_3 W_prog_12_method_11_code_0 28 rfl rfl
theorem d_12_11_24 : decode prog_12_method_11_code 24 = .ok (.iconst 1, 1) := D_4 W_prog_12_method_11_code_0 24 rfl rfl
theorem d_12_11_25 : decode prog_12_method_11_code 25 = .ok (.goto 4, 3) := D_167 W_prog_12_method_11_code_0 25 rfl rfl rfl
theorem d_12_11_29 : decode prog_12_method_11_code 29 = .ok (.ireturn, 1) := D_172 W_prog_12_method_11_code_0 29 rfl rfl
theorem W_prog_12_method_12_code_0 : chW prog_12_method_12_code 0 [26, 16, 97, 161, 0, 13, 26, 16, 122, 163, 0, 7, 4, 167, 0, 4, 3, 172] := chW_of (by decide +kernel)
theorem d_12_12_0 : decode prog_12_method_12_code 0 = .ok (.iload_n 0, 1) := D_26 W_prog_12_method_12_code_0 0 rfl rfl
theorem d_12_12_1 : decode prog_12_method_12_code 1 = .ok (.bipush 97, 2) := D_16 W_prog_12_method_12_code_0 1 rfl rfl rfl
theorem d_12_12_3 : decode prog_12_method_12_code 3 = .ok (.if_icmp .lt 13, 3) := D_161 W_prog_12_method_12_code_0 3 rfl rfl rfl
theorem d_12_12_6 : decode prog_12_method_12_code 6 = .ok (.iload_n 0, 1) := D_26 W_prog_12_method_12_code_0 6 rfl rfl
theorem d_12_12_7 : decode prog_12_method_12_code 7 = .ok (.bipush 122, 2) := D_16 W_prog_12_method_12_code_0 7 rfl rfl rfl
theorem d_12_12_9 : decode prog_12_method_12_code 9 = .ok (.if_icmp .gt 7, 3) := D_163 W_prog_12_method_12_code_0 9 rfl rfl rfl
theorem d_12_12_12 : decode prog_12_method_12_code 12 = .ok (.iconst 1, 1) := D_4 W_prog_12_method_12_code_0 12 rfl rfl
theorem d_12_12_13 : decode prog_12_method_12_code 13 = .ok (.goto 4, 3) := D_167 W_prog_12_method_12_code_0 13 rfl rfl rfl
theorem d_12_12_17 : decode prog_12_method_12_code 17 = .ok (.ireturn, 1) := D_172 W_prog_12_method_12_code_0 17 rfl rfl
theorem d_12_12_16 : decode prog_12_method_12_code 16 = .ok (.iconst 0, 1) := D_3 W_prog_12_method_12_code_0 16 rfl rfl
theorem W_prog_12_method_13_code_0 : chW prog_12_method_13_code 0 [26, 16, 48, 161, 0, 13, 26, 16, 57, 163, 0, 7, 4, 167, 0, 4, 3, 172] := chW_of (by decide +kernel)
theorem d_12_13_0 : decode prog_12_method_13_code 0 = .ok (.iload_n 0, 1) := D_26 W_prog_12_method_13_code_0 0 rfl rfl
theorem d_12_13_1 : decode prog_12_method_13_code 1 = .ok (.bipush 48, 2) := D_16 W_prog_12_method_13_code_0 1 rfl rfl rfl
theorem d_12_13_3 : decode prog_12_method_13_code 3 = .ok (.if_icmp .lt 13, 3) := D_161 W_prog_12_method_13_code_0 3 rfl rfl rfl
theorem d_12_13_6 : decode prog_12_method_13_code 6 = .ok (.iload_n 0, 1) := D_26 W_prog_12_method_13_code_0 6 rfl rfl
theorem d_12_13_7 : decode prog_12_method_13_code 7 = .ok (.bipush 57, 2) := D_16 W_prog_12_method_13_code_0 7 rfl rfl rfl
theorem d_12_13_9 : decode prog_12_method_13_code 9 = .ok (.if_icmp .gt 7, 3) := D_163 W_prog_12_method_13_code_0 9 rfl rfl rfl
theorem d_12_13_12 : decode prog_12_method_13_code 12 = .ok (.iconst 1, 1) := D_4 W_prog_12_method_13_code_0 12 rfl rfl
theorem d_12_13_13 : decode prog_12_method_13_code 13 = .ok (.goto 4, 3) := D_167 W_prog_12_method_13_code_0 13 rfl rfl rfl
theorem d_12_13_17 : decode prog_12_method_13_code 17 = .ok (.ireturn, 1) := D_172 W_prog_12_method_13_code_0 17 rfl rfl
theorem d_12_13_16 : decode prog_12_method_13_code 16 = .ok (.iconst 0, 1) := D_3 W_prog_12_method_13_code_0 16 rfl rfl
theorem W_prog_12_method_9_code_0 : chW prog_12_method_9_code 0 [42, 27, 182, 0, 28, 62, 42, 27, 28, 96, 4, 100, 182, 0, 28, 54, 4, 28, 5, 161, 0, 34, 28, 7, 163, 0, 29, 29, 16, 97, 161, 0, 23, 29, 16, 103] := chW_of (by decide +kernel)
theorem d_12_9_0 : decode prog_12_method_9_code 0 = .ok (.aload_n 0, 1) := D_42 W_prog_12_method_9_code_0 0 rfl rfl
theorem d_12_9_1 : decode prog_12_method_9_code 1 = .ok (.iload_n 1, 1) := D_27 W_prog_12_method_9_code_0 1 rfl rfl
theorem d_12_9_2 : decode prog_12_method_9_code 2 = .ok (.invokevirtual 28, 3) := D_182 W_prog_12_method_9_code_0 2 rfl rfl rfl
theorem d_12_9_5 : decode prog_12_method_9_code 5 = .ok (.istore_n 3, 1) := D_62 W_prog_12_method_9_code_0 5 rfl rfl
theorem d_12_9_6 : decode prog_12_method_9_code 6 = .ok (.aload_n 0, 1) := D_42 W_prog_12_method_9_code_0 6 rfl rfl
theorem d_12_9_7 : decode prog_12_method_9_code 7 = .ok (.iload_n 1, 1) := D_27 W_prog_12_method_9_code_0 7 rfl rfl
theorem d_12_9_8 : decode prog_12_method_9_code 8 = .ok (.iload_n 2, 1) := D_28 W_prog_12_method_9_code_0 8 rfl rfl
theorem d_12_9_9 : decode prog_12_method_9_code 9 = .ok (.iadd, 1) := D_96 W_prog_12_method_9_code_0 9 rfl rfl
theorem d_12_9_10 : decode prog_12_method_9_code 10 = .ok (.iconst 1, 1) := D_4 W_prog_12_method_9_code_0 10 rfl rfl
theorem d_12_9_11 : decode prog_12_method_9_code 11 = .ok (.isub, 1) := D_100 W_prog_12_method_9_code_0 11 rfl rfl
theorem d_12_9_12 : decode prog_12_method_9_code 12 = .ok (.invokevirtual 28, 3) := D_182 W_prog_12_method_9_code_0 12 rfl rfl rfl
theorem d_12_9_15 : decode prog_12_method_9_code 15 = .ok (.istore 4, 2) := D_54 W_prog_12_method_9_code_0 15 rfl rfl
theorem d_12_9_17 : decode prog_12_method_9_code 17 = .ok (.iload_n 2, 1) := D_28 W_prog_12_method_9_code_0 17 rfl rfl
theorem d_12_9_18 : decode prog_12_method_9_code 18 = .ok (.iconst 2, 1) := D_5 W_prog_12_method_9_code_0 18 rfl rfl
theorem d_12_9_19 : decode prog_12_method_9_code 19 = .ok (.if_icmp .lt 34, 3) := D_161 W_prog_12_method_9_code_0 19 rfl rfl rfl
theorem d_12_9_22 : decode prog_12_method_9_code 22 = .ok (.iload_n 2, 1) := D_28 W_prog_12_method_9_code_0 22 rfl rfl
theorem d_12_9_23 : decode prog_12_method_9_code 23 = .ok (.iconst 4, 1) := D_7 W_prog_12_method_9_code_0 23 rfl rfl
theorem d_12_9_24 : decode prog_12_method_9_code 24 = .ok (.if_icmp .gt 29, 3) := D_163 W_prog_12_method_9_code_0 24 rfl rfl rfl
theorem d_12_9_27 : decode prog_12_method_9_code 27 = .ok (.iload_n 3, 1) := D_29 W_prog_12_method_9_code_0 27 rfl rfl
theorem d_12_9_28 : decode prog_12_method_9_code 28 = .ok (.bipush 97, 2) := D_16 W_prog_12_method_9_code_0 28 rfl rfl rfl
theorem d_12_9_30 : decode prog_12_method_9_code 30 = .ok (.if_icmp .lt 23, 3) := D_161 W_prog_12_method_9_code_0 30 rfl rfl rfl
theorem W_prog_12_method_9_code_32 : chW prog_12_method_9_code 32 [23, 29, 16, 103, 163, 0, 17, 21, 4, 16, 48, 161, 0, 10, 21, 4, 16, 56, 164, 0, 5, 3, 172, 42, 27, 4, 96, 182, 0, 28, 54, 5, 4, 54, 6, 21] := chW_of (by decide +kernel)
theorem d_12_9_33 : decode prog_12_method_9_code 33 = .ok (.iload_n 3, 1) := D_29 W_prog_12_method_9_code_32 1 rfl rfl
theorem d_12_9_34 : decode prog_12_method_9_code 34 = .ok (.bipush 103, 2) := D_16 W_prog_12_method_9_code_32 2 rfl rfl rfl
theorem d_12_9_36 : decode prog_12_method_9_code 36 = .ok (.if_icmp .gt 17, 3) := D_163 W_prog_12_method_9_code_32 4 rfl rfl rfl
theorem d_12_9_39 : decode prog_12_method_9_code 39 = .ok (.iload 4, 2) := D_21 W_prog_12_method_9_code_32 7 rfl rfl
theorem d_12_9_41 : decode prog_12_method_9_code 41 = .ok (.bipush 48, 2) := D_16 W_prog_12_method_9_code_32 9 rfl rfl rfl
theorem d_12_9_43 : decode prog_12_method_9_code 43 = .ok (.if_icmp .lt 10, 3) := D_161 W_prog_12_method_9_code_32 11 rfl rfl rfl
theorem d_12_9_46 : decode prog_12_method_9_code 46 = .ok (.iload 4, 2) := D_21 W_prog_12_method_9_code_32 14 rfl rfl
theorem d_12_9_48 : decode prog_12_method_9_code 48 = .ok (.bipush 56, 2) := D_16 W_prog_12_method_9_code_32 16 rfl rfl rfl
theorem d_12_9_50 : decode prog_12_method_9_code 50 = .ok (.if_icmp .le 5, 3) := D_164 W_prog_12_method_9_code_32 18 rfl rfl rfl
theorem d_12_9_55 : decode prog_12_method_9_code 55 = .ok (.aload_n 0, 1) := D_42 W_prog_12_method_9_code_32 23 rfl rfl
theorem d_12_9_56 : decode prog_12_method_9_code 56 = .ok (.iload_n 1, 1) := D_27 W_prog_12_method_9_code_32 24 rfl rfl
theorem d_12_9_57 : decode prog_12_method_9_code 57 = .ok (.iconst 1, 1) := D_4 W_prog_12_method_9_code_32 25 rfl rfl
theorem d_12_9_58 : decode prog_12_method_9_code 58 = .ok (.iadd, 1) := D_96 W_prog_12_method_9_code_32 26 rfl rfl
theorem d_12_9_59 : decode prog_12_method_9_code 59 = .ok (.invokevirtual 28, 3) := D_182 W_prog_12_method_9_code_32 27 rfl rfl rfl
theorem d_12_9_62 : decode prog_12_method_9_code 62 = .ok (.istore 5, 2) := D_54 W_prog_12_method_9_code_32 30 rfl rfl
theorem W_prog_12_method_9_code_64 : chW prog_12_method_9_code 64 [4, 54, 6, 21, 6, 28, 4, 100, 162, 0, 42, 42, 27, 21, 6, 96, 182, 0, 28, 54, 7, 21, 7, 21, 5, 160, 0, 17, 21, 7, 16, 35, 159, 0, 12, 21] := chW_of (by decide +kernel)
theorem d_12_9_64 : decode prog_12_method_9_code 64 = .ok (.iconst 1, 1) := D_4 W_prog_12_method_9_code_64 0 rfl rfl
theorem d_12_9_65 : decode prog_12_method_9_code 65 = .ok (.istore 6, 2) := D_54 W_prog_12_method_9_code_64 1 rfl rfl
theorem d_12_9_53 : decode prog_12_method_9_code 53 = .ok (.iconst 0, 1) := D_3 W_prog_12_method_9_code_32 21 rfl rfl
theorem d_12_9_54 : decode prog_12_method_9_code 54 = .ok (.ireturn, 1) := D_172 W_prog_12_method_9_code_32 22 rfl rfl
theorem d_12_9_67 : decode prog_12_method_9_code 67 = .ok (.iload 6, 2) := D_21 W_prog_12_method_9_code_64 3 rfl rfl
theorem d_12_9_69 : decode prog_12_method_9_code 69 = .ok (.iload_n 2, 1) := D_28 W_prog_12_method_9_code_64 5 rfl rfl
theorem d_12_9_70 : decode prog_12_method_9_code 70 = .ok (.iconst 1, 1) := D_4 W_prog_12_method_9_code_64 6 rfl rfl
theorem d_12_9_71 : decode prog_12_method_9_code 71 = .ok (.isub, 1) := D_100 W_prog_12_method_9_code_64 7 rfl rfl
theorem d_12_9_72 : decode prog_12_method_9_code 72 = .ok (.if_icmp .ge 42, 3) := D_162 W_prog_12_method_9_code_64 8 rfl rfl rfl
theorem W_prog_12_method_9_code_96 : chW prog_12_method_9_code 96 [159, 0, 12, 21, 7, 16, 98, 159, 0, 5, 3, 172, 132, 6, 1, 167, 255, 212, 4, 172] := chW_of (by decide +kernel)
theorem d_12_9_114 : decode prog_12_method_9_code 114 = .ok (.iconst 1, 1) := D_4 W_prog_12_method_9_code_96 18 rfl rfl
theorem d_12_9_115 : decode prog_12_method_9_code 115 = .ok (.ireturn, 1) := D_172 W_prog_12_method_9_code_96 19 rfl rfl
theorem d_12_9_75 : decode prog_12_method_9_code 75 = .ok (.aload_n 0, 1) := D_42 W_prog_12_method_9_code_64 11 rfl rfl
theorem d_12_9_76 : decode prog_12_method_9_code 76 = .ok (.iload_n 1, 1) := D_27 W_prog_12_method_9_code_64 12 rfl rfl
theorem d_12_9_77 : decode prog_12_method_9_code 77 = .ok (.iload 6, 2) := D_21 W_prog_12_method_9_code_64 13 rfl rfl
theorem d_12_9_79 : decode prog_12_method_9_code 79 = .ok (.iadd, 1) := D_96 W_prog_12_method_9_code_64 15 rfl rfl
theorem d_12_9_80 : decode prog_12_method_9_code 80 = .ok (.invokevirtual 28, 3) := D_182 W_prog_12_method_9_code_64 16 rfl rfl rfl
theorem d_12_9_83 : decode prog_12_method_9_code 83 = .ok (.istore 7, 2) := D_54 W_prog_12_method_9_code_64 19 rfl rfl
theorem d_12_9_85 : decode prog_12_method_9_code 85 = .ok (.iload 7, 2) := D_21 W_prog_12_method_9_code_64 21 rfl rfl
theorem d_12_9_87 : decode prog_12_method_9_code 87 = .ok (.iload 5, 2) := D_21 W_prog_12_method_9_code_64 23 rfl rfl
theorem d_12_9_89 : decode prog_12_method_9_code 89 = .ok (.if_icmp .ne 17, 3) := D_160 W_prog_12_method_9_code_64 25 rfl rfl rfl
theorem d_12_9_92 : decode prog_12_method_9_code 92 = .ok (.iload 7, 2) := D_21 W_prog_12_method_9_code_64 28 rfl rfl
theorem d_12_9_94 : decode prog_12_method_9_code 94 = .ok (.bipush 35, 2) := D_16 W_prog_12_method_9_code_64 30 rfl rfl rfl
theorem d_12_9_96 : decode prog_12_method_9_code 96 = .ok (.if_icmp .eq 12, 3) := D_159 W_prog_12_method_9_code_96 0 rfl rfl rfl
theorem d_12_9_99 : decode prog_12_method_9_code 99 = .ok (.iload 7, 2) := D_21 W_prog_12_method_9_code_96 3 rfl rfl
theorem d_12_9_101 : decode prog_12_method_9_code 101 = .ok (.bipush 98, 2) := D_16 W_prog_12_method_9_code_96 5 rfl rfl rfl
theorem d_12_9_103 : decode prog_12_method_9_code 103 = .ok (.if_icmp .eq 5, 3) := D_159 W_prog_12_method_9_code_96 7 rfl rfl rfl
theorem d_12_9_106 : decode prog_12_method_9_code 106 = .ok (.iconst 0, 1) := D_3 W_prog_12_method_9_code_96 10 rfl rfl
theorem d_12_9_107 : decode prog_12_method_9_code 107 = .ok (.ireturn, 1) := D_172 W_prog_12_method_9_code_96 11 rfl rfl
theorem d_12_9_108 : decode prog_12_method_9_code 108 = .ok (.iinc 6 1, 3) := D_132 W_prog_12_method_9_code_96 12 rfl rfl rfl
theorem d_12_9_111 : decode prog_12_method_9_code 111 = .ok (.goto (-44), 3) := D_167 W_prog_12_method_9_code_96 15 rfl rfl rfl
theorem W_prog_12_method_10_code_0 : chW prog_12_method_10_code 0 [42, 27, 182, 0, 28, 16, 97, 100, 8, 96, 16, 7, 112, 62, 16, 7, 42, 27, 28, 96, 4, 100, 182, 0, 28, 16, 48, 100, 104, 29, 96, 54, 4, 42, 27, 4] := chW_of (by decide +kernel)
theorem d_12_10_0 : decode prog_12_method_10_code 0 = .ok (.aload_n 0, 1) := D_42 W_prog_12_method_10_code_0 0 rfl rfl
theorem d_12_10_1 : decode prog_12_method_10_code 1 = .ok (.iload_n 1, 1) := D_27 W_prog_12_method_10_code_0 1 rfl rfl
theorem d_12_10_2 : decode prog_12_method_10_code 2 = .ok (.invokevirtual 28, 3) := D_182 W_prog_12_method_10_code_0 2 rfl rfl rfl
theorem d_12_10_5 : decode prog_12_method_10_code 5 = .ok (.bipush 97, 2) := D_16 W_prog_12_method_10_code_0 5 rfl rfl rfl
theorem d_12_10_7 : decode prog_12_method_10_code 7 = .ok (.isub, 1) := D_100 W_prog_12_method_10_code_0 7 rfl rfl
theorem d_12_10_8 : decode prog_12_method_10_code 8 = .ok (.iconst 5, 1) := D_8 W_prog_12_method_10_code_0 8 rfl rfl
theorem d_12_10_9 : decode prog_12_method_10_code 9 = .ok (.iadd, 1) := D_96 W_prog_12_method_10_code_0 9 rfl rfl
theorem d_12_10_10 : decode prog_12_method_10_code 10 = .ok (.bipush 7, 2) := D_16 W_prog_12_method_10_code_0 10 rfl rfl rfl
theorem d_12_10_12 : decode prog_12_method_10_code 12 = .ok (.irem, 1) := D_112 W_prog_12_method_10_code_0 12 rfl rfl
theorem d_12_10_13 : decode prog_12_method_10_code 13 = .ok (.istore_n 3, 1) := D_62 W_prog_12_method_10_code_0 13 rfl rfl
theorem d_12_10_14 : decode prog_12_method_10_code 14 = .ok (.bipush 7, 2) := D_16 W_prog_12_method_10_code_0 14 rfl rfl rfl
theorem d_12_10_16 : decode prog_12_method_10_code 16 = .ok (.aload_n 0, 1) := D_42 W_prog_12_method_10_code_0 16 rfl rfl
theorem d_12_10_17 : decode prog_12_method_10_code 17 = .ok (.iload_n 1, 1) := D_27 W_prog_12_method_10_code_0 17 rfl rfl
theorem d_12_10_18 : decode prog_12_method_10_code 18 = .ok (.iload_n 2, 1) := D_28 W_prog_12_method_10_code_0 18 rfl rfl
theorem d_12_10_19 : decode prog_12_method_10_code 19 = .ok (.iadd, 1) := D_96 W_prog_12_method_10_code_0 19 rfl rfl
theorem d_12_10_20 : decode prog_12_method_10_code 20 = .ok (.iconst 1, 1) := D_4 W_prog_12_method_10_code_0 20 rfl rfl
theorem d_12_10_21 : decode prog_12_method_10_code 21 = .ok (.isub, 1) := D_100 W_prog_12_method_10_code_0 21 rfl rfl
theorem d_12_10_22 : decode prog_12_method_10_code 22 = .ok (.invokevirtual 28, 3) := D_182 W_prog_12_method_10_code_0 22 rfl rfl rfl
theorem d_12_10_25 : decode prog_12_method_10_code 25 = .ok (.bipush 48, 2) := D_16 W_prog_12_method_10_code_0 25 rfl rfl rfl
theorem d_12_10_27 : decode prog_12_method_10_code 27 = .ok (.isub, 1) := D_100 W_prog_12_method_10_code_0 27 rfl rfl
theorem d_12_10_28 : decode prog_12_method_10_code 28 = .ok (.imul, 1) := D_104 W_prog_12_method_10_code_0 28 rfl rfl
theorem d_12_10_29 : decode prog_12_method_10_code 29 = .ok (.iload_n 3, 1) := D_29 W_prog_12_method_10_code_0 29 rfl rfl
theorem d_12_10_30 : decode prog_12_method_10_code 30 = .ok (.iadd, 1) := D_96 W_prog_12_method_10_code_0 30 rfl rfl
theorem d_12_10_31 : decode prog_12_method_10_code 31 = .ok (.istore 4, 2) := D_54 W_prog_12_method_10_code_0 31 rfl rfl
theorem W_prog_12_method_10_code_32 : chW prog_12_method_10_code 32 [4, 42, 27, 4, 96, 182, 0, 28, 16, 35, 160, 0, 9, 28, 5, 100, 167, 0, 6, 5, 28, 100, 54, 5, 16, 8, 21, 4, 104, 21, 5, 96, 5, 96, 133, 173] := chW_of (by decide +kernel)
theorem d_12_10_33 : decode prog_12_method_10_code 33 = .ok (.aload_n 0, 1) := D_42 W_prog_12_method_10_code_32 1 rfl rfl
theorem d_12_10_34 : decode prog_12_method_10_code 34 = .ok (.iload_n 1, 1) := D_27 W_prog_12_method_10_code_32 2 rfl rfl
theorem d_12_10_35 : decode prog_12_method_10_code 35 = .ok (.iconst 1, 1) := D_4 W_prog_12_method_10_code_32 3 rfl rfl
theorem d_12_10_36 : decode prog_12_method_10_code 36 = .ok (.iadd, 1) := D_96 W_prog_12_method_10_code_32 4 rfl rfl
theorem d_12_10_37 : decode prog_12_method_10_code 37 = .ok (.invokevirtual 28, 3) := D_182 W_prog_12_method_10_code_32 5 rfl rfl rfl
theorem d_12_10_40 : decode prog_12_method_10_code 40 = .ok (.bipush 35, 2) := D_16 W_prog_12_method_10_code_32 8 rfl rfl rfl
theorem d_12_10_42 : decode prog_12_method_10_code 42 = .ok (.if_icmp .ne 9, 3) := D_160 W_prog_12_method_10_code_32 10 rfl rfl rfl
theorem d_12_10_51 : decode prog_12_method_10_code 51 = .ok (.iconst 2, 1) := D_5 W_prog_12_method_10_code_32 19 rfl rfl
theorem d_12_10_52 : decode prog_12_method_10_code 52 = .ok (.iload_n 2, 1) := D_28 W_prog_12_method_10_code_32 20 rfl rfl
theorem d_12_10_53 : decode prog_12_method_10_code 53 = .ok (.isub, 1) := D_100 W_prog_12_method_10_code_32 21 rfl rfl
theorem d_12_10_45 : decode prog_12_method_10_code 45 = .ok (.iload_n 2, 1) := D_28 W_prog_12_method_10_code_32 13 rfl rfl
theorem d_12_10_46 : decode prog_12_method_10_code 46 = .ok (.iconst 2, 1) := D_5 W_prog_12_method_10_code_32 14 rfl rfl
theorem d_12_10_47 : decode prog_12_method_10_code 47 = .ok (.isub, 1) := D_100 W_prog_12_method_10_code_32 15 rfl rfl
theorem d_12_10_48 : decode prog_12_method_10_code 48 = .ok (.goto 6, 3) := D_167 W_prog_12_method_10_code_32 16 rfl rfl rfl
theorem d_12_10_54 : decode prog_12_method_10_code 54 = .ok (.istore 5, 2) := D_54 W_prog_12_method_10_code_32 22 rfl rfl
theorem d_12_10_56 : decode prog_12_method_10_code 56 = .ok (.bipush 8, 2) := D_16 W_prog_12_method_10_code_32 24 rfl rfl rfl
theorem d_12_10_58 : decode prog_12_method_10_code 58 = .ok (.iload 4, 2) := D_21 W_prog_12_method_10_code_32 26 rfl rfl
theorem d_12_10_60 : decode prog_12_method_10_code 60 = .ok (.imul, 1) := D_104 W_prog_12_method_10_code_32 28 rfl rfl
theorem d_12_10_61 : decode prog_12_method_10_code 61 = .ok (.iload 5, 2) := D_21 W_prog_12_method_10_code_32 29 rfl rfl
theorem d_12_10_63 : decode prog_12_method_10_code 63 = .ok (.iadd, 1) := D_96 W_prog_12_method_10_code_32 31 rfl rfl
theorem W_prog_12_method_10_code_64 : chW prog_12_method_10_code 64 [5, 96, 133, 173] := chW_of (by decide +kernel)
theorem d_12_10_64 : decode prog_12_method_10_code 64 = .ok (.iconst 2, 1) := D_5 W_prog_12_method_10_code_64 0 rfl rfl
theorem d_12_10_65 : decode prog_12_method_10_code 65 = .ok (.iadd, 1) := D_96 W_prog_12_method_10_code_64 1 rfl rfl
theorem d_12_10_66 : decode prog_12_method_10_code 66 = .ok (.i2l, 1) := D_133 W_prog_12_method_10_code_64 2 rfl rfl
theorem d_12_10_67 : decode prog_12_method_10_code 67 = .ok (.lreturn, 1) := D_173 W_prog_12_method_10_code_64 3 rfl rfl
theorem W_prog_12_method_8_code_0 : chW prog_12_method_8_code 0 [9, 55, 5, 3, 54, 7, 21, 7, 28, 162, 0, 30, 22, 5, 29, 133, 105, 42, 27, 21, 7, 96, 182, 0, 28, 133, 97, 21, 4, 133, 101, 55, 5, 132, 7, 1] := chW_of (by decide +kernel)
theorem d_12_8_0 : decode prog_12_method_8_code 0 = .ok (.lconst 0, 1) := D_9 W_prog_12_method_8_code_0 0 rfl rfl
theorem d_12_8_1 : decode prog_12_method_8_code 1 = .ok (.lstore 5, 2) := D_55 W_prog_12_method_8_code_0 1 rfl rfl
theorem d_12_8_3 : decode prog_12_method_8_code 3 = .ok (.iconst 0, 1) := D_3 W_prog_12_method_8_code_0 3 rfl rfl
theorem d_12_8_4 : decode prog_12_method_8_code 4 = .ok (.istore 7, 2) := D_54 W_prog_12_method_8_code_0 4 rfl rfl
theorem d_12_8_6 : decode prog_12_method_8_code 6 = .ok (.iload 7, 2) := D_21 W_prog_12_method_8_code_0 6 rfl rfl
theorem d_12_8_8 : decode prog_12_method_8_code 8 = .ok (.iload_n 2, 1) := D_28 W_prog_12_method_8_code_0 8 rfl rfl
theorem d_12_8_9 : decode prog_12_method_8_code 9 = .ok (.if_icmp .ge 30, 3) := D_162 W_prog_12_method_8_code_0 9 rfl rfl rfl
theorem W_prog_12_method_8_code_32 : chW prog_12_method_8_code 32 [5, 132, 7, 1, 167, 255, 226, 22, 5, 173] := chW_of (by decide +kernel)
theorem d_12_8_39 : decode prog_12_method_8_code 39 = .ok (.lload 5, 2) := D_22 W_prog_12_method_8_code_32 7 rfl rfl
theorem d_12_8_41 : decode prog_12_method_8_code 41 = .ok (.lreturn, 1) := D_173 W_prog_12_method_8_code_32 9 rfl rfl
