theorem k_10_194 : (Jvm.Cond.methodLink "StaveHouseModel" (323 : Nat) ({ cls := "java/lang/String", name := "length", desc := "()I" } : Jvm.MethodName)) ∈ wAll := wA_10 (j := 194) rfl rfl
theorem k_3_82 : (Jvm.Cond.instanceMethod ({ cls := "java/lang/String", name := "length", desc := "()I" } : Jvm.MethodName)) ∈ wAll := wA_3 (j := 82) rfl rfl
theorem k_3_83 : (Jvm.Cond.selects "java/lang/String" ({ cls := "java/lang/String", name := "length", desc := "()I" } : Jvm.MethodName) ({ cls := "java/lang/String", name := "length", desc := "()I" } : Jvm.MethodName)) ∈ wAll := wA_3 (j := 83) rfl rfl
theorem k_3_84 : (Jvm.Cond.code ({ cls := "java/lang/String", name := "length", desc := "()I" } : Jvm.MethodName) prog_21_method_54_code (1 : Nat) (Option.some Jvm.ClassFile.FieldType.int)) ∈ wAll := wA_3 (j := 84) rfl rfl
theorem k_10_195 : (Jvm.Cond.methodLink "StaveHouseModel" (329 : Nat) ({ cls := "java/lang/String", name := "charAt", desc := "(I)C" } : Jvm.MethodName)) ∈ wAll := wA_10 (j := 195) rfl rfl
theorem k_7_134 : (Jvm.Cond.instanceMethod ({ cls := "java/lang/String", name := "charAt", desc := "(I)C" } : Jvm.MethodName)) ∈ wAll := wA_7 (j := 134) rfl rfl
theorem k_7_135 : (Jvm.Cond.selects "java/lang/String" ({ cls := "java/lang/String", name := "charAt", desc := "(I)C" } : Jvm.MethodName) ({ cls := "java/lang/String", name := "charAt", desc := "(I)C" } : Jvm.MethodName)) ∈ wAll := wA_7 (j := 135) rfl rfl
theorem k_7_136 : (Jvm.Cond.code ({ cls := "java/lang/String", name := "charAt", desc := "(I)C" } : Jvm.MethodName) prog_21_method_56_code (2 : Nat) (Option.some Jvm.ClassFile.FieldType.char)) ∈ wAll := wA_7 (j := 136) rfl rfl
theorem k_11_2 : (Jvm.Cond.fieldLink "StaveHouseModel" (34 : Nat) "StaveHouseModel" "waits" "[B") ∈ wAll := wA_11 (j := 2) rfl rfl
theorem k_11_1 : (Jvm.Cond.fieldLink "StaveHouseModel" (296 : Nat) "StaveHouseModel" "size" "I") ∈ wAll := wA_11 (j := 1) rfl rfl
theorem k_11_0 : (Jvm.Cond.fieldLink "StaveHouseModel" (30 : Nat) "StaveHouseModel" "tape" "[B") ∈ wAll := wA_11 (j := 0) rfl rfl
theorem k_11_3 : (Jvm.Cond.fieldLink "StaveHouseModel" (40 : Nat) "StaveHouseModel" "pieces" "[LStaveHouseModel$Piece;") ∈ wAll := wA_11 (j := 3) rfl rfl
theorem k_9_125 : (Jvm.Cond.fieldLink "StaveHouseModel" (300 : Nat) "StaveHouseModel$Piece" "there" "Z") ∈ wAll := wA_9 (j := 125) rfl rfl
theorem k_9_127 : (Jvm.Cond.fieldLink "StaveHouseModel" (310 : Nat) "StaveHouseModel$Piece" "fifths" "I") ∈ wAll := wA_9 (j := 127) rfl rfl
theorem k_9_202 : (Jvm.Cond.fieldLink "StaveHouseModel" (818 : Nat) "StaveHouseModel$Piece" "firstColumn" "[I") ∈ wAll := wA_9 (j := 202) rfl rfl
theorem k_9_214 : (Jvm.Cond.fieldLink "StaveHouseModel" (865 : Nat) "StaveHouseModel$Piece" "lineBar" "[I") ∈ wAll := wA_9 (j := 214) rfl rfl
theorem k_9_216 : (Jvm.Cond.fieldLink "StaveHouseModel" (868 : Nat) "StaveHouseModel$Piece" "lineBars" "[I") ∈ wAll := wA_9 (j := 216) rfl rfl
theorem k_9_126 : (Jvm.Cond.fieldLink "StaveHouseModel" (304 : Nat) "StaveHouseModel$Piece" "voices" "I") ∈ wAll := wA_9 (j := 126) rfl rfl
theorem k_9_160 : (Jvm.Cond.fieldLink "StaveHouseModel" (598 : Nat) "StaveHouseModel$Piece" "many" "[I") ∈ wAll := wA_9 (j := 160) rfl rfl
theorem k_9_174 : (Jvm.Cond.fieldLink "StaveHouseModel" (615 : Nat) "StaveHouseModel$Piece" "step" "[I") ∈ wAll := wA_9 (j := 174) rfl rfl
theorem k_9_176 : (Jvm.Cond.fieldLink "StaveHouseModel" (618 : Nat) "StaveHouseModel$Piece" "alt" "[I") ∈ wAll := wA_9 (j := 176) rfl rfl
theorem k_12_142 : (Jvm.Cond.constantLong "StaveHouseModel" (883 : Nat) (384 : Int64)) ∈ wAll := wA_12 (j := 142) rfl rfl
theorem k_12_151 : (Jvm.Cond.methodLink "StaveHouseModel" (3 : Nat) ({ cls := "StaveHouseModel", name := "gcd", desc := "(JJ)J" } : Jvm.MethodName)) ∈ wAll := wA_12 (j := 151) rfl rfl
theorem k_12_152 : (Jvm.Cond.static ({ cls := "StaveHouseModel", name := "gcd", desc := "(JJ)J" } : Jvm.MethodName)) ∈ wAll := wA_12 (j := 152) rfl rfl
theorem k_1_9 : (Jvm.Cond.initialized "StaveHouseModel") ∈ wAll := wA_1 (j := 9) rfl rfl
theorem k_12_153 : (Jvm.Cond.code ({ cls := "StaveHouseModel", name := "gcd", desc := "(JJ)J" } : Jvm.MethodName) prog_15_method_1_code (10 : Nat) (Option.some Jvm.ClassFile.FieldType.long)) ∈ wAll := wA_12 (j := 153) rfl rfl
theorem k_10_238 : (Jvm.Cond.fieldLink "StaveHouseModel" (9 : Nat) "StaveHouseModel" "ru" "J") ∈ wAll := wA_10 (j := 238) rfl rfl
theorem k_10_239 : (Jvm.Cond.fieldLink "StaveHouseModel" (13 : Nat) "StaveHouseModel" "rd" "J") ∈ wAll := wA_10 (j := 239) rfl rfl
theorem k_11_59 : (Jvm.Cond.fieldLink "StaveHouseModel" (202 : Nat) "StaveHouseModel" "forces" "[I") ∈ wAll := wA_11 (j := 59) rfl rfl
theorem k_9_156 : (Jvm.Cond.fieldLink "StaveHouseModel" (593 : Nat) "StaveHouseModel$Piece" "loud" "[I") ∈ wAll := wA_9 (j := 156) rfl rfl
theorem k_9_154 : (Jvm.Cond.fieldLink "StaveHouseModel" (584 : Nat) "StaveHouseModel$Piece" "marks" "[I") ∈ wAll := wA_9 (j := 154) rfl rfl
theorem k_11_60 : (Jvm.Cond.fieldLink "StaveHouseModel" (889 : Nat) "StaveHouseModel" "sounds" "I") ∈ wAll := wA_11 (j := 60) rfl rfl
theorem k_11_61 : (Jvm.Cond.fieldLink "StaveHouseModel" (205 : Nat) "StaveHouseModel" "begins" "[I") ∈ wAll := wA_11 (j := 61) rfl rfl
theorem k_11_62 : (Jvm.Cond.fieldLink "StaveHouseModel" (208 : Nat) "StaveHouseModel" "ends" "[I") ∈ wAll := wA_11 (j := 62) rfl rfl
theorem k_11_63 : (Jvm.Cond.fieldLink "StaveHouseModel" (211 : Nat) "StaveHouseModel" "tonesOf" "[I") ∈ wAll := wA_11 (j := 63) rfl rfl
theorem k_11_64 : (Jvm.Cond.fieldLink "StaveHouseModel" (214 : Nat) "StaveHouseModel" "forcesOf" "[I") ∈ wAll := wA_11 (j := 64) rfl rfl
theorem k_11_65 : (Jvm.Cond.fieldLink "StaveHouseModel" (217 : Nat) "StaveHouseModel" "voicesOf" "[I") ∈ wAll := wA_11 (j := 65) rfl rfl
theorem k_11_66 : (Jvm.Cond.fieldLink "StaveHouseModel" (220 : Nat) "StaveHouseModel" "eventsOf" "[I") ∈ wAll := wA_11 (j := 66) rfl rfl
theorem k_12_92 : (Jvm.Cond.methodLink "StaveHouseModel" (851 : Nat) ({ cls := "StaveHouseModel", name := "piece", desc := "(I)LStaveHouseModel$Piece;" } : Jvm.MethodName)) ∈ wAll := wA_12 (j := 92) rfl rfl
theorem k_12_94 : (Jvm.Cond.instanceMethod ({ cls := "StaveHouseModel", name := "piece", desc := "(I)LStaveHouseModel$Piece;" } : Jvm.MethodName)) ∈ wAll := wA_12 (j := 94) rfl rfl
theorem ks_131 : (Jvm.Cond.selects "StaveHouseModel" ({ cls := "StaveHouseModel", name := "piece", desc := "(I)LStaveHouseModel$Piece;" } : Jvm.MethodName) ({ cls := "StaveHouseModel", name := "piece", desc := "(I)LStaveHouseModel$Piece;" } : Jvm.MethodName)) ∈ wAll := wA_s (j := 131) rfl rfl
theorem k_12_95 : (Jvm.Cond.code ({ cls := "StaveHouseModel", name := "piece", desc := "(I)LStaveHouseModel$Piece;" } : Jvm.MethodName) prog_15_method_15_code (2 : Nat) (Option.some (Jvm.ClassFile.FieldType.object "StaveHouseModel$Piece"))) ∈ wAll := wA_12 (j := 95) rfl rfl
theorem k_9_221 : (Jvm.Cond.fieldLink "StaveHouseModel" (915 : Nat) "StaveHouseModel$Piece" "performed" "Z") ∈ wAll := wA_9 (j := 221) rfl rfl
theorem k_9_233 : (Jvm.Cond.fieldLink "StaveHouseModel" (929 : Nat) "StaveHouseModel$Piece" "strokes" "I") ∈ wAll := wA_9 (j := 233) rfl rfl
theorem k_10_1 : (Jvm.Cond.fieldLink "StaveHouseModel" (945 : Nat) "StaveHouseModel$Piece" "strokeForce" "[I") ∈ wAll := wA_10 (j := 1) rfl rfl
theorem k_9_239 : (Jvm.Cond.fieldLink "StaveHouseModel" (942 : Nat) "StaveHouseModel$Piece" "strokeTone" "[I") ∈ wAll := wA_9 (j := 239) rfl rfl
theorem k_9_237 : (Jvm.Cond.fieldLink "StaveHouseModel" (939 : Nat) "StaveHouseModel$Piece" "strokeVoice" "[I") ∈ wAll := wA_9 (j := 237) rfl rfl
theorem k_9_235 : (Jvm.Cond.fieldLink "StaveHouseModel" (936 : Nat) "StaveHouseModel$Piece" "strokeTick" "[I") ∈ wAll := wA_9 (j := 235) rfl rfl
theorem k_11_69 : (Jvm.Cond.fieldLink "StaveHouseModel" (961 : Nat) "StaveHouseModel" "outs" "I") ∈ wAll := wA_11 (j := 69) rfl rfl
theorem k_10_237 : (Jvm.Cond.constant "StaveHouseModel" (226 : Nat) (40000 : Int32)) ∈ wAll := wA_10 (j := 237) rfl rfl
theorem k_11_68 : (Jvm.Cond.fieldLink "StaveHouseModel" (227 : Nat) "StaveHouseModel" "out" "[B") ∈ wAll := wA_11 (j := 68) rfl rfl
theorem k_12_199 : (Jvm.Cond.methodLink "StaveHouseModel" (964 : Nat) ({ cls := "StaveHouseModel", name := "put", desc := "(I)V" } : Jvm.MethodName)) ∈ wAll := wA_12 (j := 199) rfl rfl
theorem k_12_201 : (Jvm.Cond.instanceMethod ({ cls := "StaveHouseModel", name := "put", desc := "(I)V" } : Jvm.MethodName)) ∈ wAll := wA_12 (j := 201) rfl rfl
theorem ks_142 : (Jvm.Cond.selects "StaveHouseModel" ({ cls := "StaveHouseModel", name := "put", desc := "(I)V" } : Jvm.MethodName) ({ cls := "StaveHouseModel", name := "put", desc := "(I)V" } : Jvm.MethodName)) ∈ wAll := wA_s (j := 142) rfl rfl
theorem k_12_202 : (Jvm.Cond.code ({ cls := "StaveHouseModel", name := "put", desc := "(I)V" } : Jvm.MethodName) prog_15_method_123_code (2 : Nat) (Option.none : Option Jvm.ClassFile.FieldType)) ∈ wAll := wA_12 (j := 202) rfl rfl
theorem k_12_225 : (Jvm.Cond.constantLong "StaveHouseModel" (967 : Nat) (255 : Int64)) ∈ wAll := wA_12 (j := 225) rfl rfl
theorem k_11_15 : (Jvm.Cond.fieldLink "StaveHouseModel" (356 : Nat) "StaveHouseModel" "fault" "I") ∈ wAll := wA_11 (j := 15) rfl rfl
theorem k_11_16 : (Jvm.Cond.fieldLink "StaveHouseModel" (359 : Nat) "StaveHouseModel" "place" "I") ∈ wAll := wA_11 (j := 16) rfl rfl
theorem k_11_86 : (Jvm.Cond.fieldLink "StaveHouseModel" (275 : Nat) "StaveHouseModel" "nowNumber" "[I") ∈ wAll := wA_11 (j := 86) rfl rfl
theorem k_11_92 : (Jvm.Cond.fieldLink "StaveHouseModel" (1011 : Nat) "StaveHouseModel" "nowSounds" "I") ∈ wAll := wA_11 (j := 92) rfl rfl
theorem k_11_80 : (Jvm.Cond.fieldLink "StaveHouseModel" (257 : Nat) "StaveHouseModel" "nowTrack" "[I") ∈ wAll := wA_11 (j := 80) rfl rfl
theorem k_11_81 : (Jvm.Cond.fieldLink "StaveHouseModel" (260 : Nat) "StaveHouseModel" "nowChannel" "[I") ∈ wAll := wA_11 (j := 81) rfl rfl
theorem k_11_82 : (Jvm.Cond.fieldLink "StaveHouseModel" (263 : Nat) "StaveHouseModel" "nowTone" "[I") ∈ wAll := wA_11 (j := 82) rfl rfl
theorem k_11_83 : (Jvm.Cond.fieldLink "StaveHouseModel" (266 : Nat) "StaveHouseModel" "nowForce" "[I") ∈ wAll := wA_11 (j := 83) rfl rfl
theorem k_11_84 : (Jvm.Cond.fieldLink "StaveHouseModel" (269 : Nat) "StaveHouseModel" "nowBegin" "[J") ∈ wAll := wA_11 (j := 84) rfl rfl
theorem k_11_85 : (Jvm.Cond.fieldLink "StaveHouseModel" (272 : Nat) "StaveHouseModel" "nowEnd" "[J") ∈ wAll := wA_11 (j := 85) rfl rfl
theorem k_12_105 : (Jvm.Cond.constantLong "StaveHouseModel" (847 : Nat) (-1 : Int64)) ∈ wAll := wA_12 (j := 105) rfl rfl
theorem k_13_19 : (Jvm.Cond.methodLink "StaveHouseModel" (1000 : Nat) ({ cls := "StaveHouseModel", name := "failByte", desc := "(II)V" } : Jvm.MethodName)) ∈ wAll := wA_13 (j := 19) rfl rfl
theorem k_13_21 : (Jvm.Cond.instanceMethod ({ cls := "StaveHouseModel", name := "failByte", desc := "(II)V" } : Jvm.MethodName)) ∈ wAll := wA_13 (j := 21) rfl rfl
theorem ks_153 : (Jvm.Cond.selects "StaveHouseModel" ({ cls := "StaveHouseModel", name := "failByte", desc := "(II)V" } : Jvm.MethodName) ({ cls := "StaveHouseModel", name := "failByte", desc := "(II)V" } : Jvm.MethodName)) ∈ wAll := wA_s (j := 153) rfl rfl
theorem k_13_22 : (Jvm.Cond.code ({ cls := "StaveHouseModel", name := "failByte", desc := "(II)V" } : Jvm.MethodName) prog_15_method_135_code (3 : Nat) (Option.none : Option Jvm.ClassFile.FieldType)) ∈ wAll := wA_13 (j := 22) rfl rfl
theorem k_11_70 : (Jvm.Cond.fieldLink "StaveHouseModel" (1045 : Nat) "StaveHouseModel" "isOpen" "Z") ∈ wAll := wA_11 (j := 70) rfl rfl
theorem k_11_71 : (Jvm.Cond.fieldLink "StaveHouseModel" (230 : Nat) "StaveHouseModel" "told" "[I") ∈ wAll := wA_11 (j := 71) rfl rfl
theorem k_11_72 : (Jvm.Cond.fieldLink "StaveHouseModel" (233 : Nat) "StaveHouseModel" "toldNow" "[I") ∈ wAll := wA_11 (j := 72) rfl rfl
theorem k_11_79 : (Jvm.Cond.fieldLink "StaveHouseModel" (254 : Nat) "StaveHouseModel" "trackNumber" "[I") ∈ wAll := wA_11 (j := 79) rfl rfl
theorem k_11_73 : (Jvm.Cond.fieldLink "StaveHouseModel" (236 : Nat) "StaveHouseModel" "soundTrack" "[I") ∈ wAll := wA_11 (j := 73) rfl rfl
theorem k_11_74 : (Jvm.Cond.fieldLink "StaveHouseModel" (239 : Nat) "StaveHouseModel" "soundChannel" "[I") ∈ wAll := wA_11 (j := 74) rfl rfl
theorem k_11_75 : (Jvm.Cond.fieldLink "StaveHouseModel" (242 : Nat) "StaveHouseModel" "soundTone" "[I") ∈ wAll := wA_11 (j := 75) rfl rfl
theorem k_11_76 : (Jvm.Cond.fieldLink "StaveHouseModel" (245 : Nat) "StaveHouseModel" "soundForce" "[I") ∈ wAll := wA_11 (j := 76) rfl rfl
theorem k_11_77 : (Jvm.Cond.fieldLink "StaveHouseModel" (248 : Nat) "StaveHouseModel" "soundBegin" "[J") ∈ wAll := wA_11 (j := 77) rfl rfl
theorem k_11_78 : (Jvm.Cond.fieldLink "StaveHouseModel" (251 : Nat) "StaveHouseModel" "soundEnd" "[J") ∈ wAll := wA_11 (j := 78) rfl rfl
theorem k_10_27 : (Jvm.Cond.lays "StaveHouseModel$Piece" "StaveHouseModel$Piece" "there" "Z") ∈ wAll := wA_10 (j := 27) rfl rfl
theorem k_10_29 : (Jvm.Cond.lays "StaveHouseModel$Piece" "StaveHouseModel$Piece" "voices" "I") ∈ wAll := wA_10 (j := 29) rfl rfl
theorem k_10_31 : (Jvm.Cond.lays "StaveHouseModel$Piece" "StaveHouseModel$Piece" "fifths" "I") ∈ wAll := wA_10 (j := 31) rfl rfl
theorem k_10_33 : (Jvm.Cond.lays "StaveHouseModel$Piece" "StaveHouseModel$Piece" "minor" "Z") ∈ wAll := wA_10 (j := 33) rfl rfl
theorem k_10_35 : (Jvm.Cond.lays "StaveHouseModel$Piece" "StaveHouseModel$Piece" "n" "I") ∈ wAll := wA_10 (j := 35) rfl rfl
theorem k_10_37 : (Jvm.Cond.lays "StaveHouseModel$Piece" "StaveHouseModel$Piece" "d" "I") ∈ wAll := wA_10 (j := 37) rfl rfl
theorem k_10_39 : (Jvm.Cond.lays "StaveHouseModel$Piece" "StaveHouseModel$Piece" "tempo" "I") ∈ wAll := wA_10 (j := 39) rfl rfl
theorem k_10_41 : (Jvm.Cond.lays "StaveHouseModel$Piece" "StaveHouseModel$Piece" "bars" "I") ∈ wAll := wA_10 (j := 41) rfl rfl
theorem k_10_43 : (Jvm.Cond.laysFinal "StaveHouseModel$Piece" "StaveHouseModel$Piece" "clef" "[I") ∈ wAll := wA_10 (j := 43) rfl rfl
theorem k_10_45 : (Jvm.Cond.laysFinal "StaveHouseModel$Piece" "StaveHouseModel$Piece" "number" "[I") ∈ wAll := wA_10 (j := 45) rfl rfl
theorem k_10_47 : (Jvm.Cond.laysFinal "StaveHouseModel$Piece" "StaveHouseModel$Piece" "name" "[J") ∈ wAll := wA_10 (j := 47) rfl rfl
theorem k_10_49 : (Jvm.Cond.laysFinal "StaveHouseModel$Piece" "StaveHouseModel$Piece" "letters" "[I") ∈ wAll := wA_10 (j := 49) rfl rfl
theorem k_10_51 : (Jvm.Cond.laysFinal "StaveHouseModel$Piece" "StaveHouseModel$Piece" "events" "[I") ∈ wAll := wA_10 (j := 51) rfl rfl
theorem k_10_53 : (Jvm.Cond.laysFinal "StaveHouseModel$Piece" "StaveHouseModel$Piece" "notes" "[I") ∈ wAll := wA_10 (j := 53) rfl rfl
theorem k_10_55 : (Jvm.Cond.laysFinal "StaveHouseModel$Piece" "StaveHouseModel$Piece" "up" "[J") ∈ wAll := wA_10 (j := 55) rfl rfl
theorem k_10_57 : (Jvm.Cond.laysFinal "StaveHouseModel$Piece" "StaveHouseModel$Piece" "down" "[J") ∈ wAll := wA_10 (j := 57) rfl rfl
theorem k_10_59 : (Jvm.Cond.laysFinal "StaveHouseModel$Piece" "StaveHouseModel$Piece" "lengthUp" "[J") ∈ wAll := wA_10 (j := 59) rfl rfl
theorem k_10_61 : (Jvm.Cond.laysFinal "StaveHouseModel$Piece" "StaveHouseModel$Piece" "lengthDown" "[J") ∈ wAll := wA_10 (j := 61) rfl rfl
theorem k_10_63 : (Jvm.Cond.laysFinal "StaveHouseModel$Piece" "StaveHouseModel$Piece" "marks" "[I") ∈ wAll := wA_10 (j := 63) rfl rfl
theorem k_10_65 : (Jvm.Cond.laysFinal "StaveHouseModel$Piece" "StaveHouseModel$Piece" "loud" "[I") ∈ wAll := wA_10 (j := 65) rfl rfl
theorem k_10_67 : (Jvm.Cond.laysFinal "StaveHouseModel$Piece" "StaveHouseModel$Piece" "token" "[I") ∈ wAll := wA_10 (j := 67) rfl rfl
theorem k_10_69 : (Jvm.Cond.laysFinal "StaveHouseModel$Piece" "StaveHouseModel$Piece" "many" "[I") ∈ wAll := wA_10 (j := 69) rfl rfl
theorem k_10_71 : (Jvm.Cond.laysFinal "StaveHouseModel$Piece" "StaveHouseModel$Piece" "inside" "[I") ∈ wAll := wA_10 (j := 71) rfl rfl
theorem k_10_73 : (Jvm.Cond.laysFinal "StaveHouseModel$Piece" "StaveHouseModel$Piece" "ratioUp" "[I") ∈ wAll := wA_10 (j := 73) rfl rfl
theorem k_10_75 : (Jvm.Cond.laysFinal "StaveHouseModel$Piece" "StaveHouseModel$Piece" "ratioDown" "[I") ∈ wAll := wA_10 (j := 75) rfl rfl
theorem k_10_77 : (Jvm.Cond.laysFinal "StaveHouseModel$Piece" "StaveHouseModel$Piece" "outer" "[I") ∈ wAll := wA_10 (j := 77) rfl rfl
theorem k_10_79 : (Jvm.Cond.laysFinal "StaveHouseModel$Piece" "StaveHouseModel$Piece" "outerToken" "[I") ∈ wAll := wA_10 (j := 79) rfl rfl
theorem k_10_81 : (Jvm.Cond.laysFinal "StaveHouseModel$Piece" "StaveHouseModel$Piece" "slur" "[Z") ∈ wAll := wA_10 (j := 81) rfl rfl
theorem k_10_83 : (Jvm.Cond.laysFinal "StaveHouseModel$Piece" "StaveHouseModel$Piece" "step" "[I") ∈ wAll := wA_10 (j := 83) rfl rfl
theorem k_10_85 : (Jvm.Cond.laysFinal "StaveHouseModel$Piece" "StaveHouseModel$Piece" "alt" "[I") ∈ wAll := wA_10 (j := 85) rfl rfl
theorem k_10_87 : (Jvm.Cond.laysFinal "StaveHouseModel$Piece" "StaveHouseModel$Piece" "of" "[I") ∈ wAll := wA_10 (j := 87) rfl rfl
theorem k_10_89 : (Jvm.Cond.laysFinal "StaveHouseModel$Piece" "StaveHouseModel$Piece" "bar" "[I") ∈ wAll := wA_10 (j := 89) rfl rfl
theorem k_10_91 : (Jvm.Cond.laysFinal "StaveHouseModel$Piece" "StaveHouseModel$Piece" "inUp" "[J") ∈ wAll := wA_10 (j := 91) rfl rfl
theorem k_10_93 : (Jvm.Cond.laysFinal "StaveHouseModel$Piece" "StaveHouseModel$Piece" "inDown" "[J") ∈ wAll := wA_10 (j := 93) rfl rfl
theorem k_10_95 : (Jvm.Cond.laysFinal "StaveHouseModel$Piece" "StaveHouseModel$Piece" "form" "[I") ∈ wAll := wA_10 (j := 95) rfl rfl
theorem k_10_97 : (Jvm.Cond.laysFinal "StaveHouseModel$Piece" "StaveHouseModel$Piece" "points" "[I") ∈ wAll := wA_10 (j := 97) rfl rfl
theorem k_10_99 : (Jvm.Cond.laysFinal "StaveHouseModel$Piece" "StaveHouseModel$Piece" "held" "[I") ∈ wAll := wA_10 (j := 99) rfl rfl
theorem k_10_101 : (Jvm.Cond.laysFinal "StaveHouseModel$Piece" "StaveHouseModel$Piece" "accidentals" "[I") ∈ wAll := wA_10 (j := 101) rfl rfl
theorem k_10_103 : (Jvm.Cond.laysFinal "StaveHouseModel$Piece" "StaveHouseModel$Piece" "ledgers" "[I") ∈ wAll := wA_10 (j := 103) rfl rfl
theorem k_10_105 : (Jvm.Cond.laysFinal "StaveHouseModel$Piece" "StaveHouseModel$Piece" "group" "[I") ∈ wAll := wA_10 (j := 105) rfl rfl
theorem k_10_107 : (Jvm.Cond.laysFinal "StaveHouseModel$Piece" "StaveHouseModel$Piece" "beams" "[I") ∈ wAll := wA_10 (j := 107) rfl rfl
theorem k_10_109 : (Jvm.Cond.laysFinal "StaveHouseModel$Piece" "StaveHouseModel$Piece" "stem" "[I") ∈ wAll := wA_10 (j := 109) rfl rfl
theorem k_10_111 : (Jvm.Cond.laysFinal "StaveHouseModel$Piece" "StaveHouseModel$Piece" "firstColumn" "[I") ∈ wAll := wA_10 (j := 111) rfl rfl
theorem k_10_113 : (Jvm.Cond.laysFinal "StaveHouseModel$Piece" "StaveHouseModel$Piece" "columnUp" "[J") ∈ wAll := wA_10 (j := 113) rfl rfl
theorem k_10_115 : (Jvm.Cond.laysFinal "StaveHouseModel$Piece" "StaveHouseModel$Piece" "columnDown" "[J") ∈ wAll := wA_10 (j := 115) rfl rfl
theorem k_10_117 : (Jvm.Cond.laysFinal "StaveHouseModel$Piece" "StaveHouseModel$Piece" "columnWide" "[I") ∈ wAll := wA_10 (j := 117) rfl rfl
theorem k_10_119 : (Jvm.Cond.laysFinal "StaveHouseModel$Piece" "StaveHouseModel$Piece" "barWide" "[I") ∈ wAll := wA_10 (j := 119) rfl rfl
theorem k_10_121 : (Jvm.Cond.lays "StaveHouseModel$Piece" "StaveHouseModel$Piece" "width" "I") ∈ wAll := wA_10 (j := 121) rfl rfl
theorem k_10_123 : (Jvm.Cond.lays "StaveHouseModel$Piece" "StaveHouseModel$Piece" "lines" "I") ∈ wAll := wA_10 (j := 123) rfl rfl
theorem k_10_125 : (Jvm.Cond.laysFinal "StaveHouseModel$Piece" "StaveHouseModel$Piece" "lineBar" "[I") ∈ wAll := wA_10 (j := 125) rfl rfl
theorem k_10_127 : (Jvm.Cond.laysFinal "StaveHouseModel$Piece" "StaveHouseModel$Piece" "lineBars" "[I") ∈ wAll := wA_10 (j := 127) rfl rfl
theorem k_10_129 : (Jvm.Cond.laysFinal "StaveHouseModel$Piece" "StaveHouseModel$Piece" "lineWide" "[I") ∈ wAll := wA_10 (j := 129) rfl rfl
theorem k_10_131 : (Jvm.Cond.laysFinal "StaveHouseModel$Piece" "StaveHouseModel$Piece" "linePrice" "[J") ∈ wAll := wA_10 (j := 131) rfl rfl
theorem k_10_133 : (Jvm.Cond.lays "StaveHouseModel$Piece" "StaveHouseModel$Piece" "performed" "Z") ∈ wAll := wA_10 (j := 133) rfl rfl
theorem k_10_135 : (Jvm.Cond.lays "StaveHouseModel$Piece" "StaveHouseModel$Piece" "sounds" "I") ∈ wAll := wA_10 (j := 135) rfl rfl
theorem k_10_137 : (Jvm.Cond.laysFinal "StaveHouseModel$Piece" "StaveHouseModel$Piece" "begins" "[I") ∈ wAll := wA_10 (j := 137) rfl rfl
theorem k_10_139 : (Jvm.Cond.laysFinal "StaveHouseModel$Piece" "StaveHouseModel$Piece" "ends" "[I") ∈ wAll := wA_10 (j := 139) rfl rfl
theorem k_10_141 : (Jvm.Cond.laysFinal "StaveHouseModel$Piece" "StaveHouseModel$Piece" "tone" "[I") ∈ wAll := wA_10 (j := 141) rfl rfl
theorem k_10_143 : (Jvm.Cond.laysFinal "StaveHouseModel$Piece" "StaveHouseModel$Piece" "force" "[I") ∈ wAll := wA_10 (j := 143) rfl rfl
theorem k_10_145 : (Jvm.Cond.laysFinal "StaveHouseModel$Piece" "StaveHouseModel$Piece" "voiceOf" "[I") ∈ wAll := wA_10 (j := 145) rfl rfl
theorem k_10_147 : (Jvm.Cond.lays "StaveHouseModel$Piece" "StaveHouseModel$Piece" "strokes" "I") ∈ wAll := wA_10 (j := 147) rfl rfl
theorem k_10_149 : (Jvm.Cond.laysFinal "StaveHouseModel$Piece" "StaveHouseModel$Piece" "strokeTick" "[I") ∈ wAll := wA_10 (j := 149) rfl rfl
theorem k_10_151 : (Jvm.Cond.laysFinal "StaveHouseModel$Piece" "StaveHouseModel$Piece" "strokeVoice" "[I") ∈ wAll := wA_10 (j := 151) rfl rfl
theorem k_10_153 : (Jvm.Cond.laysFinal "StaveHouseModel$Piece" "StaveHouseModel$Piece" "strokeTone" "[I") ∈ wAll := wA_10 (j := 153) rfl rfl
theorem k_10_155 : (Jvm.Cond.laysFinal "StaveHouseModel$Piece" "StaveHouseModel$Piece" "strokeForce" "[I") ∈ wAll := wA_10 (j := 155) rfl rfl
theorem k_10_157 : (Jvm.Cond.lays "StaveHouseModel$Piece" "StaveHouseModel$Piece" "made" "I") ∈ wAll := wA_10 (j := 157) rfl rfl
theorem k_10_159 : (Jvm.Cond.lays "StaveHouseModel$Piece" "StaveHouseModel$Piece" "latest" "I") ∈ wAll := wA_10 (j := 159) rfl rfl
theorem k_10_161 : (Jvm.Cond.lays "StaveHouseModel$Piece" "StaveHouseModel$Piece" "last" "I") ∈ wAll := wA_10 (j := 161) rfl rfl
theorem k_10_163 : (Jvm.Cond.lays "StaveHouseModel$Piece" "StaveHouseModel$Piece" "predicted" "I") ∈ wAll := wA_10 (j := 163) rfl rfl
theorem k_10_165 : (Jvm.Cond.lays "StaveHouseModel$Piece" "StaveHouseModel$Piece" "index" "I") ∈ wAll := wA_10 (j := 165) rfl rfl
theorem k_10_167 : (Jvm.Cond.laysFinal "StaveHouseModel$Piece" "StaveHouseModel$Piece" "heard" "[I") ∈ wAll := wA_10 (j := 167) rfl rfl
theorem k_10_169 : (Jvm.Cond.laysFinal "StaveHouseModel$Piece" "StaveHouseModel$Piece" "codes" "[I") ∈ wAll := wA_10 (j := 169) rfl rfl
theorem k_10_171 : (Jvm.Cond.lays "StaveHouseModel$Piece" "StaveHouseModel$Piece" "moments" "I") ∈ wAll := wA_10 (j := 171) rfl rfl
theorem k_10_173 : (Jvm.Cond.laysFinal "StaveHouseModel$Piece" "StaveHouseModel$Piece" "momentUp" "[J") ∈ wAll := wA_10 (j := 173) rfl rfl
theorem k_10_175 : (Jvm.Cond.laysFinal "StaveHouseModel$Piece" "StaveHouseModel$Piece" "momentDown" "[J") ∈ wAll := wA_10 (j := 175) rfl rfl
theorem k_10_177 : (Jvm.Cond.laysFinal "StaveHouseModel$Piece" "StaveHouseModel$Piece" "lies" "[I") ∈ wAll := wA_10 (j := 177) rfl rfl
theorem k_10_179 : (Jvm.Cond.lays "StaveHouseModel$Piece" "StaveHouseModel$Piece" "faults" "I") ∈ wAll := wA_10 (j := 179) rfl rfl
theorem k_10_181 : (Jvm.Cond.laysFinal "StaveHouseModel$Piece" "StaveHouseModel$Piece" "faultMoment" "[I") ∈ wAll := wA_10 (j := 181) rfl rfl
theorem k_10_183 : (Jvm.Cond.laysFinal "StaveHouseModel$Piece" "StaveHouseModel$Piece" "faultKind" "[I") ∈ wAll := wA_10 (j := 183) rfl rfl
theorem k_10_185 : (Jvm.Cond.laysFinal "StaveHouseModel$Piece" "StaveHouseModel$Piece" "faultFirst" "[I") ∈ wAll := wA_10 (j := 185) rfl rfl
theorem k_10_187 : (Jvm.Cond.laysFinal "StaveHouseModel$Piece" "StaveHouseModel$Piece" "faultSecond" "[I") ∈ wAll := wA_10 (j := 187) rfl rfl
theorem k_11_105 : (Jvm.Cond.lays "StaveHouseModel" "StaveHouseModel" "ru" "J") ∈ wAll := wA_11 (j := 105) rfl rfl
theorem k_11_107 : (Jvm.Cond.lays "StaveHouseModel" "StaveHouseModel" "rd" "J") ∈ wAll := wA_11 (j := 107) rfl rfl
theorem k_11_109 : (Jvm.Cond.laysFinal "StaveHouseModel" "StaveHouseModel" "tape" "[B") ∈ wAll := wA_11 (j := 109) rfl rfl
theorem k_11_111 : (Jvm.Cond.lays "StaveHouseModel" "StaveHouseModel" "size" "I") ∈ wAll := wA_11 (j := 111) rfl rfl
theorem k_11_113 : (Jvm.Cond.laysFinal "StaveHouseModel" "StaveHouseModel" "waits" "[B") ∈ wAll := wA_11 (j := 113) rfl rfl
theorem k_11_115 : (Jvm.Cond.laysFinal "StaveHouseModel" "StaveHouseModel" "pieces" "[LStaveHouseModel$Piece;") ∈ wAll := wA_11 (j := 115) rfl rfl
theorem k_11_117 : (Jvm.Cond.lays "StaveHouseModel" "StaveHouseModel" "work" "LStaveHouseModel$Piece;") ∈ wAll := wA_11 (j := 117) rfl rfl
theorem k_11_119 : (Jvm.Cond.laysFinal "StaveHouseModel" "StaveHouseModel" "kind" "[I") ∈ wAll := wA_11 (j := 119) rfl rfl
theorem k_11_121 : (Jvm.Cond.laysFinal "StaveHouseModel" "StaveHouseModel" "at" "[I") ∈ wAll := wA_11 (j := 121) rfl rfl
theorem k_11_123 : (Jvm.Cond.laysFinal "StaveHouseModel" "StaveHouseModel" "value" "[I") ∈ wAll := wA_11 (j := 123) rfl rfl
theorem k_11_125 : (Jvm.Cond.laysFinal "StaveHouseModel" "StaveHouseModel" "altered" "[I") ∈ wAll := wA_11 (j := 125) rfl rfl
theorem k_11_127 : (Jvm.Cond.laysFinal "StaveHouseModel" "StaveHouseModel" "word" "[J") ∈ wAll := wA_11 (j := 127) rfl rfl
theorem k_11_129 : (Jvm.Cond.lays "StaveHouseModel" "StaveHouseModel" "tokens" "I") ∈ wAll := wA_11 (j := 129) rfl rfl
theorem k_11_131 : (Jvm.Cond.laysFinal "StaveHouseModel" "StaveHouseModel" "clefs" "[J") ∈ wAll := wA_11 (j := 131) rfl rfl
theorem k_11_133 : (Jvm.Cond.laysFinal "StaveHouseModel" "StaveHouseModel" "louds" "[J") ∈ wAll := wA_11 (j := 133) rfl rfl
theorem k_11_135 : (Jvm.Cond.laysFinal "StaveHouseModel" "StaveHouseModel" "others" "[J") ∈ wAll := wA_11 (j := 135) rfl rfl
theorem k_11_137 : (Jvm.Cond.lays "StaveHouseModel" "StaveHouseModel" "t" "I") ∈ wAll := wA_11 (j := 137) rfl rfl
theorem k_11_139 : (Jvm.Cond.lays "StaveHouseModel" "StaveHouseModel" "fault" "I") ∈ wAll := wA_11 (j := 139) rfl rfl
theorem k_11_141 : (Jvm.Cond.lays "StaveHouseModel" "StaveHouseModel" "place" "I") ∈ wAll := wA_11 (j := 141) rfl rfl
theorem k_11_143 : (Jvm.Cond.lays "StaveHouseModel" "StaveHouseModel" "openMany" "I") ∈ wAll := wA_11 (j := 143) rfl rfl
theorem k_11_145 : (Jvm.Cond.lays "StaveHouseModel" "StaveHouseModel" "nearNumber" "I") ∈ wAll := wA_11 (j := 145) rfl rfl
theorem k_11_147 : (Jvm.Cond.lays "StaveHouseModel" "StaveHouseModel" "nearPoints" "I") ∈ wAll := wA_11 (j := 147) rfl rfl
theorem k_11_149 : (Jvm.Cond.lays "StaveHouseModel" "StaveHouseModel" "hadKey" "Z") ∈ wAll := wA_11 (j := 149) rfl rfl
theorem k_11_151 : (Jvm.Cond.lays "StaveHouseModel" "StaveHouseModel" "hadTime" "Z") ∈ wAll := wA_11 (j := 151) rfl rfl
theorem k_11_153 : (Jvm.Cond.lays "StaveHouseModel" "StaveHouseModel" "hadTempo" "Z") ∈ wAll := wA_11 (j := 153) rfl rfl
theorem k_11_155 : (Jvm.Cond.laysFinal "StaveHouseModel" "StaveHouseModel" "letName" "[J") ∈ wAll := wA_11 (j := 155) rfl rfl
theorem k_11_157 : (Jvm.Cond.laysFinal "StaveHouseModel" "StaveHouseModel" "letOpen" "[I") ∈ wAll := wA_11 (j := 157) rfl rfl
theorem k_11_159 : (Jvm.Cond.lays "StaveHouseModel" "StaveHouseModel" "lets" "I") ∈ wAll := wA_11 (j := 159) rfl rfl
theorem k_11_161 : (Jvm.Cond.laysFinal "StaveHouseModel" "StaveHouseModel" "voiceToken" "[I") ∈ wAll := wA_11 (j := 161) rfl rfl
theorem k_11_163 : (Jvm.Cond.laysFinal "StaveHouseModel" "StaveHouseModel" "voiceOpen" "[I") ∈ wAll := wA_11 (j := 163) rfl rfl
theorem k_11_165 : (Jvm.Cond.laysFinal "StaveHouseModel" "StaveHouseModel" "closeOf" "[I") ∈ wAll := wA_11 (j := 165) rfl rfl
theorem k_11_167 : (Jvm.Cond.laysFinal "StaveHouseModel" "StaveHouseModel" "behind" "[I") ∈ wAll := wA_11 (j := 167) rfl rfl
theorem k_11_169 : (Jvm.Cond.laysFinal "StaveHouseModel" "StaveHouseModel" "lengthNumber" "[I") ∈ wAll := wA_11 (j := 169) rfl rfl
theorem k_11_171 : (Jvm.Cond.laysFinal "StaveHouseModel" "StaveHouseModel" "lengthPoints" "[I") ∈ wAll := wA_11 (j := 171) rfl rfl
theorem k_11_173 : (Jvm.Cond.laysFinal "StaveHouseModel" "StaveHouseModel" "marksOf" "[I") ∈ wAll := wA_11 (j := 173) rfl rfl
theorem k_11_175 : (Jvm.Cond.lays "StaveHouseModel" "StaveHouseModel" "v" "I") ∈ wAll := wA_11 (j := 175) rfl rfl
theorem k_11_177 : (Jvm.Cond.lays "StaveHouseModel" "StaveHouseModel" "made" "I") ∈ wAll := wA_11 (j := 177) rfl rfl
theorem k_11_179 : (Jvm.Cond.lays "StaveHouseModel" "StaveHouseModel" "items" "I") ∈ wAll := wA_11 (j := 179) rfl rfl
theorem k_11_181 : (Jvm.Cond.lays "StaveHouseModel" "StaveHouseModel" "comeUp" "J") ∈ wAll := wA_11 (j := 181) rfl rfl
theorem k_11_183 : (Jvm.Cond.lays "StaveHouseModel" "StaveHouseModel" "comeDown" "J") ∈ wAll := wA_11 (j := 183) rfl rfl
theorem k_11_185 : (Jvm.Cond.lays "StaveHouseModel" "StaveHouseModel" "loud" "I") ∈ wAll := wA_11 (j := 185) rfl rfl
theorem k_11_187 : (Jvm.Cond.lays "StaveHouseModel" "StaveHouseModel" "backs" "I") ∈ wAll := wA_11 (j := 187) rfl rfl
theorem k_11_189 : (Jvm.Cond.laysFinal "StaveHouseModel" "StaveHouseModel" "mirrors" "[Z") ∈ wAll := wA_11 (j := 189) rfl rfl
theorem k_11_191 : (Jvm.Cond.laysFinal "StaveHouseModel" "StaveHouseModel" "steps" "[I") ∈ wAll := wA_11 (j := 191) rfl rfl
theorem k_11_193 : (Jvm.Cond.laysFinal "StaveHouseModel" "StaveHouseModel" "tones" "[I") ∈ wAll := wA_11 (j := 193) rfl rfl
theorem k_11_195 : (Jvm.Cond.lays "StaveHouseModel" "StaveHouseModel" "changes" "I") ∈ wAll := wA_11 (j := 195) rfl rfl
theorem k_11_197 : (Jvm.Cond.laysFinal "StaveHouseModel" "StaveHouseModel" "firsts" "[I") ∈ wAll := wA_11 (j := 197) rfl rfl
theorem k_11_199 : (Jvm.Cond.laysFinal "StaveHouseModel" "StaveHouseModel" "seconds" "[I") ∈ wAll := wA_11 (j := 199) rfl rfl
theorem k_11_201 : (Jvm.Cond.lays "StaveHouseModel" "StaveHouseModel" "brackets" "I") ∈ wAll := wA_11 (j := 201) rfl rfl
theorem k_11_203 : (Jvm.Cond.lays "StaveHouseModel" "StaveHouseModel" "outerToken" "I") ∈ wAll := wA_11 (j := 203) rfl rfl
theorem k_11_205 : (Jvm.Cond.lays "StaveHouseModel" "StaveHouseModel" "outerTimes" "I") ∈ wAll := wA_11 (j := 205) rfl rfl
theorem k_11_207 : (Jvm.Cond.laysFinal "StaveHouseModel" "StaveHouseModel" "powers" "[I") ∈ wAll := wA_11 (j := 207) rfl rfl
theorem k_11_209 : (Jvm.Cond.lays "StaveHouseModel" "StaveHouseModel" "leftUp" "J") ∈ wAll := wA_11 (j := 209) rfl rfl
theorem k_11_211 : (Jvm.Cond.lays "StaveHouseModel" "StaveHouseModel" "leftDown" "J") ∈ wAll := wA_11 (j := 211) rfl rfl
theorem k_11_213 : (Jvm.Cond.lays "StaveHouseModel" "StaveHouseModel" "hereUp" "J") ∈ wAll := wA_11 (j := 213) rfl rfl
theorem k_11_215 : (Jvm.Cond.lays "StaveHouseModel" "StaveHouseModel" "hereDown" "J") ∈ wAll := wA_11 (j := 215) rfl rfl
theorem k_11_217 : (Jvm.Cond.lays "StaveHouseModel" "StaveHouseModel" "bestForm" "I") ∈ wAll := wA_11 (j := 217) rfl rfl
theorem k_11_219 : (Jvm.Cond.lays "StaveHouseModel" "StaveHouseModel" "bestPoints" "I") ∈ wAll := wA_11 (j := 219) rfl rfl
theorem k_11_221 : (Jvm.Cond.laysFinal "StaveHouseModel" "StaveHouseModel" "knows" "[I") ∈ wAll := wA_11 (j := 221) rfl rfl
theorem k_11_223 : (Jvm.Cond.laysFinal "StaveHouseModel" "StaveHouseModel" "least" "[J") ∈ wAll := wA_11 (j := 223) rfl rfl
theorem k_11_225 : (Jvm.Cond.laysFinal "StaveHouseModel" "StaveHouseModel" "most" "[I") ∈ wAll := wA_11 (j := 225) rfl rfl
theorem k_11_227 : (Jvm.Cond.laysFinal "StaveHouseModel" "StaveHouseModel" "forces" "[I") ∈ wAll := wA_11 (j := 227) rfl rfl
theorem k_11_229 : (Jvm.Cond.lays "StaveHouseModel" "StaveHouseModel" "sounds" "I") ∈ wAll := wA_11 (j := 229) rfl rfl
theorem k_11_231 : (Jvm.Cond.laysFinal "StaveHouseModel" "StaveHouseModel" "begins" "[I") ∈ wAll := wA_11 (j := 231) rfl rfl
theorem k_11_233 : (Jvm.Cond.laysFinal "StaveHouseModel" "StaveHouseModel" "ends" "[I") ∈ wAll := wA_11 (j := 233) rfl rfl
theorem k_11_235 : (Jvm.Cond.laysFinal "StaveHouseModel" "StaveHouseModel" "tonesOf" "[I") ∈ wAll := wA_11 (j := 235) rfl rfl
theorem k_11_237 : (Jvm.Cond.laysFinal "StaveHouseModel" "StaveHouseModel" "forcesOf" "[I") ∈ wAll := wA_11 (j := 237) rfl rfl
theorem k_11_239 : (Jvm.Cond.laysFinal "StaveHouseModel" "StaveHouseModel" "voicesOf" "[I") ∈ wAll := wA_11 (j := 239) rfl rfl
theorem k_12_1 : (Jvm.Cond.laysFinal "StaveHouseModel" "StaveHouseModel" "eventsOf" "[I") ∈ wAll := wA_12 (j := 1) rfl rfl
theorem k_12_3 : (Jvm.Cond.laysFinal "StaveHouseModel" "StaveHouseModel" "order" "[I") ∈ wAll := wA_12 (j := 3) rfl rfl
theorem k_12_5 : (Jvm.Cond.laysFinal "StaveHouseModel" "StaveHouseModel" "out" "[B") ∈ wAll := wA_12 (j := 5) rfl rfl
theorem k_12_7 : (Jvm.Cond.lays "StaveHouseModel" "StaveHouseModel" "outs" "I") ∈ wAll := wA_12 (j := 7) rfl rfl
theorem k_12_9 : (Jvm.Cond.lays "StaveHouseModel" "StaveHouseModel" "isOpen" "Z") ∈ wAll := wA_12 (j := 9) rfl rfl
theorem k_12_11 : (Jvm.Cond.laysFinal "StaveHouseModel" "StaveHouseModel" "told" "[I") ∈ wAll := wA_12 (j := 11) rfl rfl
theorem k_12_13 : (Jvm.Cond.laysFinal "StaveHouseModel" "StaveHouseModel" "toldNow" "[I") ∈ wAll := wA_12 (j := 13) rfl rfl
theorem k_12_15 : (Jvm.Cond.laysFinal "StaveHouseModel" "StaveHouseModel" "soundTrack" "[I") ∈ wAll := wA_12 (j := 15) rfl rfl
theorem k_12_17 : (Jvm.Cond.laysFinal "StaveHouseModel" "StaveHouseModel" "soundChannel" "[I") ∈ wAll := wA_12 (j := 17) rfl rfl
theorem k_12_19 : (Jvm.Cond.laysFinal "StaveHouseModel" "StaveHouseModel" "soundTone" "[I") ∈ wAll := wA_12 (j := 19) rfl rfl
theorem k_12_21 : (Jvm.Cond.laysFinal "StaveHouseModel" "StaveHouseModel" "soundForce" "[I") ∈ wAll := wA_12 (j := 21) rfl rfl
theorem k_12_23 : (Jvm.Cond.laysFinal "StaveHouseModel" "StaveHouseModel" "soundBegin" "[J") ∈ wAll := wA_12 (j := 23) rfl rfl
theorem k_12_25 : (Jvm.Cond.laysFinal "StaveHouseModel" "StaveHouseModel" "soundEnd" "[J") ∈ wAll := wA_12 (j := 25) rfl rfl
theorem k_12_27 : (Jvm.Cond.laysFinal "StaveHouseModel" "StaveHouseModel" "trackNumber" "[I") ∈ wAll := wA_12 (j := 27) rfl rfl
theorem k_12_29 : (Jvm.Cond.laysFinal "StaveHouseModel" "StaveHouseModel" "nowTrack" "[I") ∈ wAll := wA_12 (j := 29) rfl rfl
theorem k_12_31 : (Jvm.Cond.laysFinal "StaveHouseModel" "StaveHouseModel" "nowChannel" "[I") ∈ wAll := wA_12 (j := 31) rfl rfl
theorem k_12_33 : (Jvm.Cond.laysFinal "StaveHouseModel" "StaveHouseModel" "nowTone" "[I") ∈ wAll := wA_12 (j := 33) rfl rfl
theorem k_12_35 : (Jvm.Cond.laysFinal "StaveHouseModel" "StaveHouseModel" "nowForce" "[I") ∈ wAll := wA_12 (j := 35) rfl rfl
theorem k_12_37 : (Jvm.Cond.laysFinal "StaveHouseModel" "StaveHouseModel" "nowBegin" "[J") ∈ wAll := wA_12 (j := 37) rfl rfl
theorem k_12_39 : (Jvm.Cond.laysFinal "StaveHouseModel" "StaveHouseModel" "nowEnd" "[J") ∈ wAll := wA_12 (j := 39) rfl rfl
theorem k_12_41 : (Jvm.Cond.laysFinal "StaveHouseModel" "StaveHouseModel" "nowNumber" "[I") ∈ wAll := wA_12 (j := 41) rfl rfl
theorem k_12_43 : (Jvm.Cond.lays "StaveHouseModel" "StaveHouseModel" "p" "I") ∈ wAll := wA_12 (j := 43) rfl rfl
theorem k_12_45 : (Jvm.Cond.lays "StaveHouseModel" "StaveHouseModel" "limit" "J") ∈ wAll := wA_12 (j := 45) rfl rfl
theorem k_12_47 : (Jvm.Cond.lays "StaveHouseModel" "StaveHouseModel" "hasTime" "Z") ∈ wAll := wA_12 (j := 47) rfl rfl
theorem k_12_49 : (Jvm.Cond.lays "StaveHouseModel" "StaveHouseModel" "hasKey" "Z") ∈ wAll := wA_12 (j := 49) rfl rfl
theorem k_12_51 : (Jvm.Cond.lays "StaveHouseModel" "StaveHouseModel" "hasTempo" "Z") ∈ wAll := wA_12 (j := 51) rfl rfl
theorem k_12_53 : (Jvm.Cond.lays "StaveHouseModel" "StaveHouseModel" "nowSounds" "I") ∈ wAll := wA_12 (j := 53) rfl rfl
theorem k_12_55 : (Jvm.Cond.laysFinal "StaveHouseModel" "StaveHouseModel" "sixTones" "[I") ∈ wAll := wA_12 (j := 55) rfl rfl
theorem k_12_57 : (Jvm.Cond.laysFinal "StaveHouseModel" "StaveHouseModel" "table" "[I") ∈ wAll := wA_12 (j := 57) rfl rfl
theorem k_12_59 : (Jvm.Cond.laysFinal "StaveHouseModel" "StaveHouseModel" "moves" "[I") ∈ wAll := wA_12 (j := 59) rfl rfl
theorem k_12_61 : (Jvm.Cond.laysFinal "StaveHouseModel" "StaveHouseModel" "classLetter" "[I") ∈ wAll := wA_12 (j := 61) rfl rfl
theorem k_12_63 : (Jvm.Cond.laysFinal "StaveHouseModel" "StaveHouseModel" "classAlt" "[I") ∈ wAll := wA_12 (j := 63) rfl rfl
theorem k_12_65 : (Jvm.Cond.lays "StaveHouseModel" "StaveHouseModel" "classes" "I") ∈ wAll := wA_12 (j := 65) rfl rfl
theorem k_12_67 : (Jvm.Cond.lays "StaveHouseModel" "StaveHouseModel" "bass" "I") ∈ wAll := wA_12 (j := 67) rfl rfl
theorem k_12_69 : (Jvm.Cond.lays "StaveHouseModel" "StaveHouseModel" "bassStep" "I") ∈ wAll := wA_12 (j := 69) rfl rfl
theorem k_12_71 : (Jvm.Cond.lays "StaveHouseModel" "StaveHouseModel" "bassAlt" "I") ∈ wAll := wA_12 (j := 71) rfl rfl
theorem k_12_73 : (Jvm.Cond.lays "StaveHouseModel" "StaveHouseModel" "chordKind" "I") ∈ wAll := wA_12 (j := 73) rfl rfl
theorem k_12_75 : (Jvm.Cond.lays "StaveHouseModel" "StaveHouseModel" "root" "I") ∈ wAll := wA_12 (j := 75) rfl rfl
theorem k_12_77 : (Jvm.Cond.laysFinal "StaveHouseModel" "StaveHouseModel" "weights" "[I") ∈ wAll := wA_12 (j := 77) rfl rfl
theorem W_prog_15_method_24_code_0 : chW prog_15_method_24_code 0 [9, 64, 3, 62, 29, 42, 182, 1, 67, 162, 0, 21, 31, 16, 8, 121, 42, 29, 182, 1, 73, 133, 129, 64, 132, 3, 1, 167, 255, 233, 31, 173] := chW_of (by decide +kernel)
theorem d_15_24_0 : decode prog_15_method_24_code 0 = .ok (.lconst 0, 1) := D_9 W_prog_15_method_24_code_0 0 rfl rfl
theorem d_15_24_1 : decode prog_15_method_24_code 1 = .ok (.lstore_n 1, 1) := D_64 W_prog_15_method_24_code_0 1 rfl rfl
theorem d_15_24_2 : decode prog_15_method_24_code 2 = .ok (.iconst 0, 1) := D_3 W_prog_15_method_24_code_0 2 rfl rfl
theorem d_15_24_3 : decode prog_15_method_24_code 3 = .ok (.istore_n 3, 1) := D_62 W_prog_15_method_24_code_0 3 rfl rfl
theorem d_15_24_4 : decode prog_15_method_24_code 4 = .ok (.iload_n 3, 1) := D_29 W_prog_15_method_24_code_0 4 rfl rfl
theorem d_15_24_5 : decode prog_15_method_24_code 5 = .ok (.aload_n 0, 1) := D_42 W_prog_15_method_24_code_0 5 rfl rfl
theorem d_15_24_6 : decode prog_15_method_24_code 6 = .ok (.invokevirtual 323, 3) := D_182 W_prog_15_method_24_code_0 6 rfl rfl rfl
theorem d_15_24_9 : decode prog_15_method_24_code 9 = .ok (.if_icmp .ge 21, 3) := D_162 W_prog_15_method_24_code_0 9 rfl rfl rfl
theorem d_15_24_30 : decode prog_15_method_24_code 30 = .ok (.lload_n 1, 1) := D_31 W_prog_15_method_24_code_0 30 rfl rfl
theorem d_15_24_31 : decode prog_15_method_24_code 31 = .ok (.lreturn, 1) := D_173 W_prog_15_method_24_code_0 31 rfl rfl
theorem d_15_24_12 : decode prog_15_method_24_code 12 = .ok (.lload_n 1, 1) := D_31 W_prog_15_method_24_code_0 12 rfl rfl
theorem d_15_24_13 : decode prog_15_method_24_code 13 = .ok (.bipush 8, 2) := D_16 W_prog_15_method_24_code_0 13 rfl rfl rfl
theorem d_15_24_15 : decode prog_15_method_24_code 15 = .ok (.lshl, 1) := D_121 W_prog_15_method_24_code_0 15 rfl rfl
theorem d_15_24_16 : decode prog_15_method_24_code 16 = .ok (.aload_n 0, 1) := D_42 W_prog_15_method_24_code_0 16 rfl rfl
theorem d_15_24_17 : decode prog_15_method_24_code 17 = .ok (.iload_n 3, 1) := D_29 W_prog_15_method_24_code_0 17 rfl rfl
theorem d_15_24_18 : decode prog_15_method_24_code 18 = .ok (.invokevirtual 329, 3) := D_182 W_prog_15_method_24_code_0 18 rfl rfl rfl
theorem d_15_24_21 : decode prog_15_method_24_code 21 = .ok (.i2l, 1) := D_133 W_prog_15_method_24_code_0 21 rfl rfl
theorem d_15_24_22 : decode prog_15_method_24_code 22 = .ok (.lor, 1) := D_129 W_prog_15_method_24_code_0 22 rfl rfl
theorem d_15_24_23 : decode prog_15_method_24_code 23 = .ok (.lstore_n 1, 1) := D_64 W_prog_15_method_24_code_0 23 rfl rfl
theorem d_15_24_24 : decode prog_15_method_24_code 24 = .ok (.iinc 3 1, 3) := D_132 W_prog_15_method_24_code_0 24 rfl rfl rfl
theorem d_15_24_27 : decode prog_15_method_24_code 27 = .ok (.goto (-23), 3) := D_167 W_prog_15_method_24_code_0 27 rfl rfl rfl
theorem W_prog_15_method_12_code_0 : chW prog_15_method_12_code 0 [3, 54, 6, 21, 6, 16, 20, 162, 0, 78, 21, 6, 7, 162, 0, 7, 27, 167, 0, 39, 21, 6, 16, 8, 162, 0, 7, 28, 167, 0, 28, 21, 6, 16, 12, 162] := chW_of (by decide +kernel)
theorem W_prog_15_method_12_code_64 : chW prog_15_method_12_code 64 [21, 7, 16, 24, 16, 8, 21, 6, 7, 112, 104, 100, 122, 145, 84, 132, 6, 1, 167, 255, 177, 177] := chW_of (by decide +kernel)
theorem W_prog_15_method_12_code_32 : chW prog_15_method_12_code 32 [6, 16, 12, 162, 0, 7, 29, 167, 0, 17, 21, 6, 16, 16, 162, 0, 8, 21, 4, 167, 0, 5, 21, 5, 54, 7, 42, 180, 0, 34, 21, 6, 21, 7, 16, 24] := chW_of (by decide +kernel)
theorem d_15_12_79 : decode prog_15_method_12_code 79 = .ok (.iinc 6 1, 3) := D_132 W_prog_15_method_12_code_64 15 rfl rfl rfl
theorem W_prog_15_method_13_code_0 : chW prog_15_method_13_code 0 [27, 155, 0, 21, 27, 16, 20, 163, 0, 15, 42, 180, 1, 40, 27, 96, 17, 11, 184, 164, 0, 5, 2, 172, 3, 61, 28, 27, 162, 0, 26, 42, 180, 0, 30, 42] := chW_of (by decide +kernel)
theorem W_prog_15_method_13_code_32 : chW prog_15_method_13_code 32 [180, 0, 30, 42, 180, 1, 40, 28, 96, 42, 180, 0, 34, 28, 51, 84, 132, 2, 1, 167, 255, 231, 42, 89, 180, 1, 40, 27, 96, 181, 1, 40, 42, 180, 1, 40] := chW_of (by decide +kernel)
theorem W_prog_15_method_13_code_64 : chW prog_15_method_13_code 64 [42, 180, 1, 40, 172] := chW_of (by decide +kernel)
theorem d_15_13_48 : decode prog_15_method_13_code 48 = .ok (.iinc 2 1, 3) := D_132 W_prog_15_method_13_code_32 16 rfl rfl rfl
theorem W_prog_15_method_15_code_0 : chW prog_15_method_15_code 0 [27, 155, 0, 29, 27, 5, 162, 0, 24, 42, 180, 0, 40, 27, 50, 180, 1, 44, 153, 0, 12, 42, 180, 0, 40, 27, 50, 167, 0, 4, 1, 176] := chW_of (by decide +kernel)
theorem W_prog_15_method_105_code_0 : chW prog_15_method_105_code 0 [16, 24, 8, 42, 180, 1, 54, 156, 0, 11, 42, 180, 1, 54, 116, 167, 0, 7, 42, 180, 1, 54, 104, 96, 27, 154, 0, 8, 16, 12, 167, 0, 4, 3, 96, 172] := chW_of (by decide +kernel)
theorem W_prog_15_method_105_code_32 : chW prog_15_method_105_code 32 [4, 3, 96, 172] := chW_of (by decide +kernel)
theorem W_prog_15_method_109_code_0 : chW prog_15_method_109_code 0 [42, 180, 3, 50, 42, 180, 3, 97, 27, 46, 42, 180, 3, 100, 27, 46, 96, 46, 42, 180, 3, 50, 42, 180, 3, 97, 27, 46, 46, 100, 172] := chW_of (by decide +kernel)
theorem W_prog_15_method_16_code_0 : chW prog_15_method_16_code 0 [42, 198, 0, 19, 27, 155, 0, 15, 27, 42, 180, 1, 48, 162, 0, 7, 4, 167, 0, 4, 3, 172] := chW_of (by decide +kernel)
theorem W_prog_15_method_71_code_0 : chW prog_15_method_71_code 0 [3, 54, 4, 21, 4, 42, 180, 2, 86, 27, 46, 162, 0, 44, 42, 180, 2, 103, 16, 6, 27, 104, 21, 4, 96, 46, 28, 160, 0, 22, 42, 180, 2, 106, 16, 6] := chW_of (by decide +kernel)
theorem W_prog_15_method_71_code_32 : chW prog_15_method_71_code 32 [2, 106, 16, 6, 27, 104, 21, 4, 96, 46, 29, 160, 0, 6, 21, 4, 172, 132, 4, 1, 167, 255, 207, 2, 172] := chW_of (by decide +kernel)
theorem d_15_71_49 : decode prog_15_method_71_code 49 = .ok (.iinc 4 1, 3) := D_132 W_prog_15_method_71_code_32 17 rfl rfl rfl
theorem W_prog_15_method_112_code_0 : chW prog_15_method_112_code 0 [20, 3, 115, 30, 105, 32, 109, 136, 172] := chW_of (by decide +kernel)
theorem W_prog_15_method_1_code_0 : chW prog_15_method_1_code 0 [30, 55, 4, 32, 55, 6, 22, 6, 9, 148, 153, 0, 21, 22, 4, 22, 6, 113, 55, 8, 22, 6, 55, 4, 22, 8, 55, 6, 167, 255, 234, 22, 4, 173] := chW_of (by decide +kernel)
theorem W_prog_15_method_1_code_32 : chW prog_15_method_1_code 32 [4, 173] := chW_of (by decide +kernel)
theorem W_prog_15_method_2_code_0 : chW prog_15_method_2_code 0 [31, 33, 184, 0, 3, 55, 5, 42, 31, 22, 5, 109, 181, 0, 9, 42, 33, 22, 5, 109, 181, 0, 13, 177] := chW_of (by decide +kernel)
theorem W_prog_15_method_17_code_0 : chW prog_15_method_17_code 0 [26, 16, 7, 112, 61, 5, 28, 104, 28, 5, 164, 0, 7, 4, 167, 0, 4, 3, 100, 62, 16, 12, 26, 16, 7, 108, 4, 96, 104, 29, 96, 27, 96, 172] := chW_of (by decide +kernel)
theorem W_prog_15_method_17_code_32 : chW prog_15_method_17_code 32 [96, 172] := chW_of (by decide +kernel)
theorem W_prog_15_method_9_code_0 : chW prog_15_method_9_code 0 [26, 27, 108, 61, 26, 27, 112, 156, 0, 9, 28, 4, 100, 167, 0, 4, 28, 172] := chW_of (by decide +kernel)
theorem W_prog_15_method_117_code_0 : chW prog_15_method_117_code 0 [42, 180, 0, 202, 43, 180, 2, 81, 28, 46, 46, 43, 180, 2, 72, 28, 46, 16, 16, 126, 158, 0, 8, 16, 15, 167, 0, 4, 3, 96, 62, 29, 16, 127, 164, 0] := chW_of (by decide +kernel)
theorem W_prog_15_method_117_code_32 : chW prog_15_method_117_code 32 [16, 127, 164, 0, 8, 16, 127, 167, 0, 4, 29, 172] := chW_of (by decide +kernel)
theorem W_prog_15_method_114_code_0 : chW prog_15_method_114_code 0 [28, 27, 160, 0, 4, 177, 42, 180, 3, 121, 17, 7, 208, 162, 0, 66, 42, 180, 0, 205, 42, 180, 3, 121, 27, 79, 42, 180, 0, 208, 42, 180, 3, 121, 28, 79] := chW_of (by decide +kernel)
theorem W_prog_15_method_114_code_32 : chW prog_15_method_114_code 32 [3, 121, 28, 79, 42, 180, 0, 211, 42, 180, 3, 121, 29, 79, 42, 180, 0, 214, 42, 180, 3, 121, 21, 4, 79, 42, 180, 0, 217, 42, 180, 3, 121, 21, 5, 79] := chW_of (by decide +kernel)
theorem W_prog_15_method_114_code_64 : chW prog_15_method_114_code 64 [121, 21, 5, 79, 42, 180, 0, 220, 42, 180, 3, 121, 21, 6, 79, 42, 89, 180, 3, 121, 4, 96, 181, 3, 121, 177] := chW_of (by decide +kernel)
theorem W_prog_15_method_120_code_0 : chW prog_15_method_120_code 0 [27, 5, 108, 62, 28, 5, 108, 54, 4, 27, 5, 112, 154, 0, 12, 42, 180, 0, 205, 29, 46, 167, 0, 9, 42, 180, 0, 208, 29, 46, 54, 5, 28, 5, 112, 154] := chW_of (by decide +kernel)
theorem W_prog_15_method_120_code_32 : chW prog_15_method_120_code 32 [28, 5, 112, 154, 0, 13, 42, 180, 0, 205, 21, 4, 46, 167, 0, 10, 42, 180, 0, 208, 21, 4, 46, 54, 6, 21, 5, 21, 6, 159, 0, 16, 21, 5, 21, 6] := chW_of (by decide +kernel)
theorem W_prog_15_method_120_code_64 : chW prog_15_method_120_code 64 [21, 5, 21, 6, 162, 0, 7, 4, 167, 0, 4, 3, 172, 27, 5, 112, 28, 5, 112, 159, 0, 16, 27, 5, 112, 4, 160, 0, 7, 4, 167, 0, 4, 3, 172, 42] := chW_of (by decide +kernel)
theorem W_prog_15_method_120_code_96 : chW prog_15_method_120_code 96 [4, 3, 172, 42, 180, 0, 217, 29, 46, 42, 180, 0, 217, 21, 4, 46, 159, 0, 25, 42, 180, 0, 217, 29, 46, 42, 180, 0, 217, 21, 4, 46, 162, 0, 7, 4] := chW_of (by decide +kernel)
theorem W_prog_15_method_120_code_128 : chW prog_15_method_120_code 128 [162, 0, 7, 4, 167, 0, 4, 3, 172, 42, 180, 0, 211, 29, 46, 42, 180, 0, 211, 21, 4, 46, 159, 0, 25, 42, 180, 0, 211, 29, 46, 42, 180, 0, 211, 21] := chW_of (by decide +kernel)
theorem W_prog_15_method_120_code_160 : chW prog_15_method_120_code 160 [180, 0, 211, 21, 4, 46, 162, 0, 7, 4, 167, 0, 4, 3, 172, 42, 180, 0, 220, 29, 46, 42, 180, 0, 220, 21, 4, 46, 162, 0, 7, 4, 167, 0, 4, 3] := chW_of (by decide +kernel)
theorem W_prog_15_method_120_code_192 : chW prog_15_method_120_code 192 [167, 0, 4, 3, 172] := chW_of (by decide +kernel)
theorem W_prog_15_method_122_code_0 : chW prog_15_method_122_code 0 [42, 27, 182, 3, 83, 58, 4, 25, 4, 198, 0, 24, 25, 4, 180, 3, 147, 153, 0, 16, 28, 155, 0, 12, 28, 25, 4, 180, 3, 161, 161, 0, 5, 2, 172, 29] := chW_of (by decide +kernel)
theorem W_prog_15_method_122_code_32 : chW prog_15_method_122_code 32 [5, 2, 172, 29, 154, 0, 11, 25, 4, 180, 3, 168, 28, 46, 172, 29, 4, 160, 0, 11, 25, 4, 180, 3, 171, 28, 46, 172, 29, 5, 160, 0, 11, 25, 4, 180] := chW_of (by decide +kernel)
theorem W_prog_15_method_122_code_64 : chW prog_15_method_122_code 64 [11, 25, 4, 180, 3, 174, 28, 46, 172, 29, 6, 160, 0, 13, 25, 4, 180, 3, 177, 28, 46, 167, 0, 4, 2, 172] := chW_of (by decide +kernel)
theorem W_prog_15_method_123_code_0 : chW prog_15_method_123_code 0 [42, 180, 3, 193, 18, 226, 162, 0, 14, 42, 180, 0, 227, 42, 180, 3, 193, 27, 145, 84, 42, 89, 180, 3, 193, 4, 96, 181, 3, 193, 177] := chW_of (by decide +kernel)
theorem W_prog_15_method_127_code_0 : chW prog_15_method_127_code 0 [16, 24, 61, 28, 155, 0, 20, 42, 27, 28, 122, 17, 0, 255, 126, 182, 3, 196, 132, 2, 248, 167, 255, 238, 177] := chW_of (by decide +kernel)
theorem d_15_127_18 : decode prog_15_method_127_code 18 = .ok (.iinc 2 (-8), 3) := D_132 W_prog_15_method_127_code_0 18 rfl rfl rfl
theorem W_prog_15_method_131_code_0 : chW prog_15_method_131_code 0 [42, 3, 182, 3, 196, 42, 17, 0, 255, 182, 3, 196, 42, 16, 47, 182, 3, 196, 42, 3, 182, 3, 196, 42, 180, 3, 193, 27, 100, 61, 3, 62, 29, 7, 162, 0] := chW_of (by decide +kernel)
theorem W_prog_15_method_131_code_32 : chW prog_15_method_131_code 32 [29, 7, 162, 0, 29, 42, 180, 0, 227, 27, 7, 100, 29, 96, 28, 16, 24, 16, 8, 29, 104, 100, 122, 145, 84, 132, 3, 1, 167, 255, 228, 177] := chW_of (by decide +kernel)
theorem d_15_131_57 : decode prog_15_method_131_code 57 = .ok (.iinc 3 1, 3) := D_132 W_prog_15_method_131_code_32 25 rfl rfl rfl
theorem W_prog_15_method_126_code_0 : chW prog_15_method_126_code 0 [16, 56, 62, 29, 155, 0, 33, 31, 29, 123, 20, 3, 199, 127, 9, 148, 153, 0, 15, 42, 31, 29, 123, 20, 3, 199, 127, 136, 182, 3, 196, 132, 3, 248, 167, 255] := chW_of (by decide +kernel)
theorem W_prog_15_method_126_code_32 : chW prog_15_method_126_code 32 [3, 248, 167, 255, 225, 177] := chW_of (by decide +kernel)
theorem d_15_126_31 : decode prog_15_method_126_code 31 = .ok (.iinc 3 (-8), 3) := D_132 W_prog_15_method_126_code_0 31 rfl rfl rfl
theorem W_prog_15_method_128_code_0 : chW prog_15_method_128_code 0 [16, 28, 61, 28, 158, 0, 29, 27, 28, 122, 158, 0, 17, 42, 17, 0, 128, 27, 28, 122, 16, 127, 126, 128, 182, 3, 196, 132, 2, 249, 167, 255, 229, 42, 27, 16] := chW_of (by decide +kernel)
theorem W_prog_15_method_128_code_32 : chW prog_15_method_128_code 32 [229, 42, 27, 16, 127, 126, 182, 3, 196, 177] := chW_of (by decide +kernel)
theorem d_15_128_27 : decode prog_15_method_128_code 27 = .ok (.iinc 2 (-7), 3) := D_132 W_prog_15_method_128_code_0 27 rfl rfl rfl
theorem W_prog_15_method_133_code_0 : chW prog_15_method_133_code 0 [27, 155, 0, 24, 27, 42, 180, 3, 193, 162, 0, 16, 42, 180, 0, 227, 27, 51, 17, 0, 255, 126, 167, 0, 4, 2, 172] := chW_of (by decide +kernel)
theorem W_prog_15_method_134_code_0 : chW prog_15_method_134_code 0 [42, 180, 3, 193, 153, 0, 13, 42, 180, 3, 193, 17, 11, 184, 164, 0, 5, 2, 172, 3, 60, 27, 42, 180, 3, 193, 162, 0, 21, 42, 180, 0, 30, 27, 42, 180] := chW_of (by decide +kernel)
theorem W_prog_15_method_134_code_32 : chW prog_15_method_134_code 32 [30, 27, 42, 180, 0, 227, 27, 51, 84, 132, 1, 1, 167, 255, 233, 42, 42, 180, 3, 193, 181, 1, 40, 42, 180, 1, 40, 172] := chW_of (by decide +kernel)
theorem d_15_134_41 : decode prog_15_method_134_code 41 = .ok (.iinc 1 1, 3) := D_132 W_prog_15_method_134_code_32 9 rfl rfl rfl
theorem W_prog_15_method_28_code_0 : chW prog_15_method_28_code 0 [42, 180, 1, 100, 154, 0, 7, 4, 167, 0, 4, 3, 172] := chW_of (by decide +kernel)
theorem W_prog_15_method_135_code_0 : chW prog_15_method_135_code 0 [42, 180, 1, 100, 158, 0, 4, 177, 42, 27, 181, 1, 100, 42, 28, 181, 1, 103, 177] := chW_of (by decide +kernel)
theorem W_prog_15_method_14_code_0 : chW prog_15_method_14_code 0 [42, 180, 0, 30, 27, 51, 17, 0, 255, 126, 172] := chW_of (by decide +kernel)
theorem W_prog_15_method_147_code_0 : chW prog_15_method_147_code 0 [29, 16, 16, 112, 54, 9, 29, 17, 0, 192, 161, 0, 32, 29, 17, 0, 208, 162, 0, 25, 42, 180, 1, 19, 27, 46, 156, 0, 211, 42, 180, 1, 19, 27, 21, 4] := chW_of (by decide +kernel)
theorem W_prog_15_method_147_code_32 : chW prog_15_method_147_code 32 [19, 27, 21, 4, 7, 112, 79, 167, 0, 198, 29, 17, 0, 144, 161, 0, 112, 29, 17, 0, 160, 162, 0, 105, 21, 5, 158, 0, 100, 42, 180, 3, 243, 17, 1, 144] := chW_of (by decide +kernel)
theorem W_prog_15_method_147_code_224 : chW prog_15_method_147_code 224 [243, 162, 0, 12, 42, 180, 1, 16, 21, 10, 22, 6, 80, 177] := chW_of (by decide +kernel)
theorem W_prog_15_method_147_code_64 : chW prog_15_method_147_code 64 [243, 17, 1, 144, 160, 0, 11, 42, 6, 21, 8, 182, 3, 232, 177, 42, 180, 1, 1, 42, 180, 3, 243, 27, 79, 42, 180, 1, 4, 42, 180, 3, 243, 21, 9, 79] := chW_of (by decide +kernel)
theorem W_prog_15_method_147_code_96 : chW prog_15_method_147_code 96 [243, 21, 9, 79, 42, 180, 1, 7, 42, 180, 3, 243, 21, 4, 79, 42, 180, 1, 10, 42, 180, 3, 243, 21, 5, 79, 42, 180, 1, 13, 42, 180, 3, 243, 22, 6] := chW_of (by decide +kernel)
theorem W_prog_15_method_147_code_128 : chW prog_15_method_147_code 128 [3, 243, 22, 6, 80, 42, 180, 1, 16, 42, 180, 3, 243, 20, 3, 79, 80, 42, 89, 180, 3, 243, 4, 96, 181, 3, 243, 167, 0, 82, 29, 17, 0, 160, 162, 0] := chW_of (by decide +kernel)
theorem W_prog_15_method_147_code_160 : chW prog_15_method_147_code 160 [0, 160, 162, 0, 75, 28, 54, 10, 21, 10, 42, 180, 3, 243, 162, 0, 45, 42, 180, 1, 4, 21, 10, 46, 21, 9, 160, 0, 27, 42, 180, 1, 7, 21, 10, 46] := chW_of (by decide +kernel)
theorem W_prog_15_method_147_code_192 : chW prog_15_method_147_code 192 [7, 21, 10, 46, 21, 4, 160, 0, 15, 42, 180, 1, 16, 21, 10, 47, 9, 148, 155, 0, 9, 132, 10, 1, 167, 255, 208, 21, 10, 42, 180, 3, 243, 162, 0, 12] := chW_of (by decide +kernel)
theorem d_15_147_213 : decode prog_15_method_147_code 213 = .ok (.iinc 10 1, 3) := D_132 W_prog_15_method_147_code_192 21 rfl rfl rfl
theorem W_prog_15_method_143_code_0 : chW prog_15_method_143_code 0 [42, 4, 181, 4, 21, 3, 60, 27, 16, 8, 162, 0, 33, 42, 180, 0, 230, 27, 42, 180, 0, 233, 27, 46, 79, 42, 180, 0, 254, 27, 42, 180, 1, 19, 27, 46] := chW_of (by decide +kernel)
theorem W_prog_15_method_143_code_32 : chW prog_15_method_143_code 32 [1, 19, 27, 46, 79, 132, 1, 1, 167, 255, 223, 3, 60, 27, 42, 180, 3, 243, 162, 0, 81, 42, 180, 0, 236, 27, 42, 180, 1, 1, 27, 46, 79, 42, 180, 0] := chW_of (by decide +kernel)
theorem d_15_143_37 : decode prog_15_method_143_code 37 = .ok (.iinc 1 1, 3) := D_132 W_prog_15_method_143_code_32 5 rfl rfl rfl
theorem W_prog_15_method_143_code_128 : chW prog_15_method_143_code 128 [167, 255, 173, 177] := chW_of (by decide +kernel)
theorem W_prog_15_method_143_code_64 : chW prog_15_method_143_code 64 [79, 42, 180, 0, 239, 27, 42, 180, 1, 4, 27, 46, 79, 42, 180, 0, 242, 27, 42, 180, 1, 7, 27, 46, 79, 42, 180, 0, 245, 27, 42, 180, 1, 10, 27, 46] := chW_of (by decide +kernel)
theorem W_prog_15_method_143_code_96 : chW prog_15_method_143_code 96 [1, 10, 27, 46, 79, 42, 180, 0, 248, 27, 42, 180, 1, 13, 27, 47, 80, 42, 180, 0, 251, 27, 42, 180, 1, 16, 27, 47, 80, 132, 1, 1, 167, 255, 173, 177] := chW_of (by decide +kernel)
theorem d_15_143_125 : decode prog_15_method_143_code 125 = .ok (.iinc 1 1, 3) := D_132 W_prog_15_method_143_code_96 29 rfl rfl rfl
set_option maxRecDepth 20000 in
theorem inW_13 : ∀ w ∈ u_ws RX13 TX13 81, w ∈ wAll := by
  show ∀ w ∈ [(Jvm.Cond.lays "StaveHouseModel$Piece" "StaveHouseModel$Piece" "there" "Z"), (Jvm.Cond.lays "StaveHouseModel$Piece" "StaveHouseModel$Piece" "voices" "I"), (Jvm.Cond.lays "StaveHouseModel$Piece" "StaveHouseModel$Piece" "fifths" "I"), (Jvm.Cond.lays "StaveHouseModel$Piece" "StaveHouseModel$Piece" "minor" "Z"), (Jvm.Cond.lays "StaveHouseModel$Piece" "StaveHouseModel$Piece" "n" "I"), (Jvm.Cond.lays "StaveHouseModel$Piece" "StaveHouseModel$Piece" "d" "I"), (Jvm.Cond.lays "StaveHouseModel$Piece" "StaveHouseModel$Piece" "tempo" "I"), (Jvm.Cond.lays "StaveHouseModel$Piece" "StaveHouseModel$Piece" "bars" "I"), (Jvm.Cond.laysFinal "StaveHouseModel$Piece" "StaveHouseModel$Piece" "clef" "[I"), (Jvm.Cond.laysFinal "StaveHouseModel$Piece" "StaveHouseModel$Piece" "number" "[I"), (Jvm.Cond.laysFinal "StaveHouseModel$Piece" "StaveHouseModel$Piece" "name" "[J"), (Jvm.Cond.laysFinal "StaveHouseModel$Piece" "StaveHouseModel$Piece" "letters" "[I"), (Jvm.Cond.laysFinal "StaveHouseModel$Piece" "StaveHouseModel$Piece" "events" "[I"), (Jvm.Cond.laysFinal "StaveHouseModel$Piece" "StaveHouseModel$Piece" "notes" "[I"), (Jvm.Cond.laysFinal "StaveHouseModel$Piece" "StaveHouseModel$Piece" "up" "[J"), (Jvm.Cond.laysFinal "StaveHouseModel$Piece" "StaveHouseModel$Piece" "down" "[J"), (Jvm.Cond.laysFinal "StaveHouseModel$Piece" "StaveHouseModel$Piece" "lengthUp" "[J"), (Jvm.Cond.laysFinal "StaveHouseModel$Piece" "StaveHouseModel$Piece" "lengthDown" "[J"), (Jvm.Cond.laysFinal "StaveHouseModel$Piece" "StaveHouseModel$Piece" "marks" "[I"), (Jvm.Cond.laysFinal "StaveHouseModel$Piece" "StaveHouseModel$Piece" "loud" "[I"), (Jvm.Cond.laysFinal "StaveHouseModel$Piece" "StaveHouseModel$Piece" "token" "[I"), (Jvm.Cond.laysFinal "StaveHouseModel$Piece" "StaveHouseModel$Piece" "many" "[I"), (Jvm.Cond.laysFinal "StaveHouseModel$Piece" "StaveHouseModel$Piece" "inside" "[I"), (Jvm.Cond.laysFinal "StaveHouseModel$Piece" "StaveHouseModel$Piece" "ratioUp" "[I"), (Jvm.Cond.laysFinal "StaveHouseModel$Piece" "StaveHouseModel$Piece" "ratioDown" "[I"), (Jvm.Cond.laysFinal "StaveHouseModel$Piece" "StaveHouseModel$Piece" "outer" "[I"), (Jvm.Cond.laysFinal "StaveHouseModel$Piece" "StaveHouseModel$Piece" "outerToken" "[I"), (Jvm.Cond.laysFinal "StaveHouseModel$Piece" "StaveHouseModel$Piece" "slur" "[Z"), (Jvm.Cond.laysFinal "StaveHouseModel$Piece" "StaveHouseModel$Piece" "step" "[I"), (Jvm.Cond.laysFinal "StaveHouseModel$Piece" "StaveHouseModel$Piece" "alt" "[I"), (Jvm.Cond.laysFinal "StaveHouseModel$Piece" "StaveHouseModel$Piece" "of" "[I"), (Jvm.Cond.laysFinal "StaveHouseModel$Piece" "StaveHouseModel$Piece" "bar" "[I"), (Jvm.Cond.laysFinal "StaveHouseModel$Piece" "StaveHouseModel$Piece" "inUp" "[J"), (Jvm.Cond.laysFinal "StaveHouseModel$Piece" "StaveHouseModel$Piece" "inDown" "[J"), (Jvm.Cond.laysFinal "StaveHouseModel$Piece" "StaveHouseModel$Piece" "form" "[I"), (Jvm.Cond.laysFinal "StaveHouseModel$Piece" "StaveHouseModel$Piece" "points" "[I"), (Jvm.Cond.laysFinal "StaveHouseModel$Piece" "StaveHouseModel$Piece" "held" "[I"), (Jvm.Cond.laysFinal "StaveHouseModel$Piece" "StaveHouseModel$Piece" "accidentals" "[I"), (Jvm.Cond.laysFinal "StaveHouseModel$Piece" "StaveHouseModel$Piece" "ledgers" "[I"), (Jvm.Cond.laysFinal "StaveHouseModel$Piece" "StaveHouseModel$Piece" "group" "[I"), (Jvm.Cond.laysFinal "StaveHouseModel$Piece" "StaveHouseModel$Piece" "beams" "[I"), (Jvm.Cond.laysFinal "StaveHouseModel$Piece" "StaveHouseModel$Piece" "stem" "[I"), (Jvm.Cond.laysFinal "StaveHouseModel$Piece" "StaveHouseModel$Piece" "firstColumn" "[I"), (Jvm.Cond.laysFinal "StaveHouseModel$Piece" "StaveHouseModel$Piece" "columnUp" "[J"), (Jvm.Cond.laysFinal "StaveHouseModel$Piece" "StaveHouseModel$Piece" "columnDown" "[J"), (Jvm.Cond.laysFinal "StaveHouseModel$Piece" "StaveHouseModel$Piece" "columnWide" "[I"), (Jvm.Cond.laysFinal "StaveHouseModel$Piece" "StaveHouseModel$Piece" "barWide" "[I"), (Jvm.Cond.lays "StaveHouseModel$Piece" "StaveHouseModel$Piece" "width" "I"), (Jvm.Cond.lays "StaveHouseModel$Piece" "StaveHouseModel$Piece" "lines" "I"), (Jvm.Cond.laysFinal "StaveHouseModel$Piece" "StaveHouseModel$Piece" "lineBar" "[I"), (Jvm.Cond.laysFinal "StaveHouseModel$Piece" "StaveHouseModel$Piece" "lineBars" "[I"), (Jvm.Cond.laysFinal "StaveHouseModel$Piece" "StaveHouseModel$Piece" "lineWide" "[I"), (Jvm.Cond.laysFinal "StaveHouseModel$Piece" "StaveHouseModel$Piece" "linePrice" "[J"), (Jvm.Cond.lays "StaveHouseModel$Piece" "StaveHouseModel$Piece" "performed" "Z"), (Jvm.Cond.lays "StaveHouseModel$Piece" "StaveHouseModel$Piece" "sounds" "I"), (Jvm.Cond.laysFinal "StaveHouseModel$Piece" "StaveHouseModel$Piece" "begins" "[I"), (Jvm.Cond.laysFinal "StaveHouseModel$Piece" "StaveHouseModel$Piece" "ends" "[I"), (Jvm.Cond.laysFinal "StaveHouseModel$Piece" "StaveHouseModel$Piece" "tone" "[I"), (Jvm.Cond.laysFinal "StaveHouseModel$Piece" "StaveHouseModel$Piece" "force" "[I"), (Jvm.Cond.laysFinal "StaveHouseModel$Piece" "StaveHouseModel$Piece" "voiceOf" "[I"), (Jvm.Cond.lays "StaveHouseModel$Piece" "StaveHouseModel$Piece" "strokes" "I"), (Jvm.Cond.laysFinal "StaveHouseModel$Piece" "StaveHouseModel$Piece" "strokeTick" "[I"), (Jvm.Cond.laysFinal "StaveHouseModel$Piece" "StaveHouseModel$Piece" "strokeVoice" "[I"), (Jvm.Cond.laysFinal "StaveHouseModel$Piece" "StaveHouseModel$Piece" "strokeTone" "[I"), (Jvm.Cond.laysFinal "StaveHouseModel$Piece" "StaveHouseModel$Piece" "strokeForce" "[I"), (Jvm.Cond.lays "StaveHouseModel$Piece" "StaveHouseModel$Piece" "made" "I"), (Jvm.Cond.lays "StaveHouseModel$Piece" "StaveHouseModel$Piece" "latest" "I"), (Jvm.Cond.lays "StaveHouseModel$Piece" "StaveHouseModel$Piece" "last" "I"), (Jvm.Cond.lays "StaveHouseModel$Piece" "StaveHouseModel$Piece" "predicted" "I"), (Jvm.Cond.lays "StaveHouseModel$Piece" "StaveHouseModel$Piece" "index" "I"), (Jvm.Cond.laysFinal "StaveHouseModel$Piece" "StaveHouseModel$Piece" "heard" "[I"), (Jvm.Cond.laysFinal "StaveHouseModel$Piece" "StaveHouseModel$Piece" "codes" "[I"), (Jvm.Cond.lays "StaveHouseModel$Piece" "StaveHouseModel$Piece" "moments" "I"), (Jvm.Cond.laysFinal "StaveHouseModel$Piece" "StaveHouseModel$Piece" "momentUp" "[J"), (Jvm.Cond.laysFinal "StaveHouseModel$Piece" "StaveHouseModel$Piece" "momentDown" "[J"), (Jvm.Cond.laysFinal "StaveHouseModel$Piece" "StaveHouseModel$Piece" "lies" "[I"), (Jvm.Cond.lays "StaveHouseModel$Piece" "StaveHouseModel$Piece" "faults" "I"), (Jvm.Cond.laysFinal "StaveHouseModel$Piece" "StaveHouseModel$Piece" "faultMoment" "[I"), (Jvm.Cond.laysFinal "StaveHouseModel$Piece" "StaveHouseModel$Piece" "faultKind" "[I"), (Jvm.Cond.laysFinal "StaveHouseModel$Piece" "StaveHouseModel$Piece" "faultFirst" "[I"), (Jvm.Cond.laysFinal "StaveHouseModel$Piece" "StaveHouseModel$Piece" "faultSecond" "[I")], w ∈ wAll
  exact List.forall_mem_cons.mpr ⟨k_10_27, List.forall_mem_cons.mpr ⟨k_10_29, List.forall_mem_cons.mpr ⟨k_10_31, List.forall_mem_cons.mpr ⟨k_10_33, List.forall_mem_cons.mpr ⟨k_10_35, List.forall_mem_cons.mpr ⟨k_10_37, List.forall_mem_cons.mpr ⟨k_10_39, List.forall_mem_cons.mpr ⟨k_10_41, List.forall_mem_cons.mpr ⟨k_10_43, List.forall_mem_cons.mpr ⟨k_10_45, List.forall_mem_cons.mpr ⟨k_10_47, List.forall_mem_cons.mpr ⟨k_10_49, List.forall_mem_cons.mpr ⟨k_10_51, List.forall_mem_cons.mpr ⟨k_10_53, List.forall_mem_cons.mpr ⟨k_10_55, List.forall_mem_cons.mpr ⟨k_10_57, List.forall_mem_cons.mpr ⟨k_10_59, List.forall_mem_cons.mpr ⟨k_10_61, List.forall_mem_cons.mpr ⟨k_10_63, List.forall_mem_cons.mpr ⟨k_10_65, List.forall_mem_cons.mpr ⟨k_10_67, List.forall_mem_cons.mpr ⟨k_10_69, List.forall_mem_cons.mpr ⟨k_10_71, List.forall_mem_cons.mpr ⟨k_10_73, List.forall_mem_cons.mpr ⟨k_10_75, List.forall_mem_cons.mpr ⟨k_10_77, List.forall_mem_cons.mpr ⟨k_10_79, List.forall_mem_cons.mpr ⟨k_10_81, List.forall_mem_cons.mpr ⟨k_10_83, List.forall_mem_cons.mpr ⟨k_10_85, List.forall_mem_cons.mpr ⟨k_10_87, List.forall_mem_cons.mpr ⟨k_10_89, List.forall_mem_cons.mpr ⟨k_10_91, List.forall_mem_cons.mpr ⟨k_10_93, List.forall_mem_cons.mpr ⟨k_10_95, List.forall_mem_cons.mpr ⟨k_10_97, List.forall_mem_cons.mpr ⟨k_10_99, List.forall_mem_cons.mpr ⟨k_10_101, List.forall_mem_cons.mpr ⟨k_10_103, List.forall_mem_cons.mpr ⟨k_10_105, List.forall_mem_cons.mpr ⟨k_10_107, List.forall_mem_cons.mpr ⟨k_10_109, List.forall_mem_cons.mpr ⟨k_10_111, List.forall_mem_cons.mpr ⟨k_10_113, List.forall_mem_cons.mpr ⟨k_10_115, List.forall_mem_cons.mpr ⟨k_10_117, List.forall_mem_cons.mpr ⟨k_10_119, List.forall_mem_cons.mpr ⟨k_10_121, List.forall_mem_cons.mpr ⟨k_10_123, List.forall_mem_cons.mpr ⟨k_10_125, List.forall_mem_cons.mpr ⟨k_10_127, List.forall_mem_cons.mpr ⟨k_10_129, List.forall_mem_cons.mpr ⟨k_10_131, List.forall_mem_cons.mpr ⟨k_10_133, List.forall_mem_cons.mpr ⟨k_10_135, List.forall_mem_cons.mpr ⟨k_10_137, List.forall_mem_cons.mpr ⟨k_10_139, List.forall_mem_cons.mpr ⟨k_10_141, List.forall_mem_cons.mpr ⟨k_10_143, List.forall_mem_cons.mpr ⟨k_10_145, List.forall_mem_cons.mpr ⟨k_10_147, List.forall_mem_cons.mpr ⟨k_10_149, List.forall_mem_cons.mpr ⟨k_10_151, List.forall_mem_cons.mpr ⟨k_10_153, List.forall_mem_cons.mpr ⟨k_10_155, List.forall_mem_cons.mpr ⟨k_10_157, List.forall_mem_cons.mpr ⟨k_10_159, List.forall_mem_cons.mpr ⟨k_10_161, List.forall_mem_cons.mpr ⟨k_10_163, List.forall_mem_cons.mpr ⟨k_10_165, List.forall_mem_cons.mpr ⟨k_10_167, List.forall_mem_cons.mpr ⟨k_10_169, List.forall_mem_cons.mpr ⟨k_10_171, List.forall_mem_cons.mpr ⟨k_10_173, List.forall_mem_cons.mpr ⟨k_10_175, List.forall_mem_cons.mpr ⟨k_10_177, List.forall_mem_cons.mpr ⟨k_10_179, List.forall_mem_cons.mpr ⟨k_10_181, List.forall_mem_cons.mpr ⟨k_10_183, List.forall_mem_cons.mpr ⟨k_10_185, List.forall_mem_cons.mpr ⟨k_10_187, fun _ h => absurd h List.not_mem_nil⟩⟩⟩⟩⟩⟩⟩⟩⟩⟩⟩⟩⟩⟩⟩⟩⟩⟩⟩⟩⟩⟩⟩⟩⟩⟩⟩⟩⟩⟩⟩⟩⟩⟩⟩⟩⟩⟩⟩⟩⟩⟩⟩⟩⟩⟩⟩⟩⟩⟩⟩⟩⟩⟩⟩⟩⟩⟩⟩⟩⟩⟩⟩⟩⟩⟩⟩⟩⟩⟩⟩⟩⟩⟩⟩⟩⟩⟩⟩⟩⟩
set_option maxRecDepth 20000 in
theorem inW_14 : ∀ w ∈ u_ws RX14 TX14 107, w ∈ wAll := by
  show ∀ w ∈ [(Jvm.Cond.lays "StaveHouseModel" "StaveHouseModel" "ru" "J"), (Jvm.Cond.lays "StaveHouseModel" "StaveHouseModel" "rd" "J"), (Jvm.Cond.laysFinal "StaveHouseModel" "StaveHouseModel" "tape" "[B"), (Jvm.Cond.lays "StaveHouseModel" "StaveHouseModel" "size" "I"), (Jvm.Cond.laysFinal "StaveHouseModel" "StaveHouseModel" "waits" "[B"), (Jvm.Cond.laysFinal "StaveHouseModel" "StaveHouseModel" "pieces" "[LStaveHouseModel$Piece;"), (Jvm.Cond.lays "StaveHouseModel" "StaveHouseModel" "work" "LStaveHouseModel$Piece;"), (Jvm.Cond.laysFinal "StaveHouseModel" "StaveHouseModel" "kind" "[I"), (Jvm.Cond.laysFinal "StaveHouseModel" "StaveHouseModel" "at" "[I"), (Jvm.Cond.laysFinal "StaveHouseModel" "StaveHouseModel" "value" "[I"), (Jvm.Cond.laysFinal "StaveHouseModel" "StaveHouseModel" "altered" "[I"), (Jvm.Cond.laysFinal "StaveHouseModel" "StaveHouseModel" "word" "[J"), (Jvm.Cond.lays "StaveHouseModel" "StaveHouseModel" "tokens" "I"), (Jvm.Cond.laysFinal "StaveHouseModel" "StaveHouseModel" "clefs" "[J"), (Jvm.Cond.laysFinal "StaveHouseModel" "StaveHouseModel" "louds" "[J"), (Jvm.Cond.laysFinal "StaveHouseModel" "StaveHouseModel" "others" "[J"), (Jvm.Cond.lays "StaveHouseModel" "StaveHouseModel" "t" "I"), (Jvm.Cond.lays "StaveHouseModel" "StaveHouseModel" "fault" "I"), (Jvm.Cond.lays "StaveHouseModel" "StaveHouseModel" "place" "I"), (Jvm.Cond.lays "StaveHouseModel" "StaveHouseModel" "openMany" "I"), (Jvm.Cond.lays "StaveHouseModel" "StaveHouseModel" "nearNumber" "I"), (Jvm.Cond.lays "StaveHouseModel" "StaveHouseModel" "nearPoints" "I"), (Jvm.Cond.lays "StaveHouseModel" "StaveHouseModel" "hadKey" "Z"), (Jvm.Cond.lays "StaveHouseModel" "StaveHouseModel" "hadTime" "Z"), (Jvm.Cond.lays "StaveHouseModel" "StaveHouseModel" "hadTempo" "Z"), (Jvm.Cond.laysFinal "StaveHouseModel" "StaveHouseModel" "letName" "[J"), (Jvm.Cond.laysFinal "StaveHouseModel" "StaveHouseModel" "letOpen" "[I"), (Jvm.Cond.lays "StaveHouseModel" "StaveHouseModel" "lets" "I"), (Jvm.Cond.laysFinal "StaveHouseModel" "StaveHouseModel" "voiceToken" "[I"), (Jvm.Cond.laysFinal "StaveHouseModel" "StaveHouseModel" "voiceOpen" "[I"), (Jvm.Cond.laysFinal "StaveHouseModel" "StaveHouseModel" "closeOf" "[I"), (Jvm.Cond.laysFinal "StaveHouseModel" "StaveHouseModel" "behind" "[I"), (Jvm.Cond.laysFinal "StaveHouseModel" "StaveHouseModel" "lengthNumber" "[I"), (Jvm.Cond.laysFinal "StaveHouseModel" "StaveHouseModel" "lengthPoints" "[I"), (Jvm.Cond.laysFinal "StaveHouseModel" "StaveHouseModel" "marksOf" "[I"), (Jvm.Cond.lays "StaveHouseModel" "StaveHouseModel" "v" "I"), (Jvm.Cond.lays "StaveHouseModel" "StaveHouseModel" "made" "I"), (Jvm.Cond.lays "StaveHouseModel" "StaveHouseModel" "items" "I"), (Jvm.Cond.lays "StaveHouseModel" "StaveHouseModel" "comeUp" "J"), (Jvm.Cond.lays "StaveHouseModel" "StaveHouseModel" "comeDown" "J"), (Jvm.Cond.lays "StaveHouseModel" "StaveHouseModel" "loud" "I"), (Jvm.Cond.lays "StaveHouseModel" "StaveHouseModel" "backs" "I"), (Jvm.Cond.laysFinal "StaveHouseModel" "StaveHouseModel" "mirrors" "[Z"), (Jvm.Cond.laysFinal "StaveHouseModel" "StaveHouseModel" "steps" "[I"), (Jvm.Cond.laysFinal "StaveHouseModel" "StaveHouseModel" "tones" "[I"), (Jvm.Cond.lays "StaveHouseModel" "StaveHouseModel" "changes" "I"), (Jvm.Cond.laysFinal "StaveHouseModel" "StaveHouseModel" "firsts" "[I"), (Jvm.Cond.laysFinal "StaveHouseModel" "StaveHouseModel" "seconds" "[I"), (Jvm.Cond.lays "StaveHouseModel" "StaveHouseModel" "brackets" "I"), (Jvm.Cond.lays "StaveHouseModel" "StaveHouseModel" "outerToken" "I"), (Jvm.Cond.lays "StaveHouseModel" "StaveHouseModel" "outerTimes" "I"), (Jvm.Cond.laysFinal "StaveHouseModel" "StaveHouseModel" "powers" "[I"), (Jvm.Cond.lays "StaveHouseModel" "StaveHouseModel" "leftUp" "J"), (Jvm.Cond.lays "StaveHouseModel" "StaveHouseModel" "leftDown" "J"), (Jvm.Cond.lays "StaveHouseModel" "StaveHouseModel" "hereUp" "J"), (Jvm.Cond.lays "StaveHouseModel" "StaveHouseModel" "hereDown" "J"), (Jvm.Cond.lays "StaveHouseModel" "StaveHouseModel" "bestForm" "I"), (Jvm.Cond.lays "StaveHouseModel" "StaveHouseModel" "bestPoints" "I"), (Jvm.Cond.laysFinal "StaveHouseModel" "StaveHouseModel" "knows" "[I"), (Jvm.Cond.laysFinal "StaveHouseModel" "StaveHouseModel" "least" "[J"), (Jvm.Cond.laysFinal "StaveHouseModel" "StaveHouseModel" "most" "[I"), (Jvm.Cond.laysFinal "StaveHouseModel" "StaveHouseModel" "forces" "[I"), (Jvm.Cond.lays "StaveHouseModel" "StaveHouseModel" "sounds" "I"), (Jvm.Cond.laysFinal "StaveHouseModel" "StaveHouseModel" "begins" "[I"), (Jvm.Cond.laysFinal "StaveHouseModel" "StaveHouseModel" "ends" "[I"), (Jvm.Cond.laysFinal "StaveHouseModel" "StaveHouseModel" "tonesOf" "[I"), (Jvm.Cond.laysFinal "StaveHouseModel" "StaveHouseModel" "forcesOf" "[I"), (Jvm.Cond.laysFinal "StaveHouseModel" "StaveHouseModel" "voicesOf" "[I"), (Jvm.Cond.laysFinal "StaveHouseModel" "StaveHouseModel" "eventsOf" "[I"), (Jvm.Cond.laysFinal "StaveHouseModel" "StaveHouseModel" "order" "[I"), (Jvm.Cond.laysFinal "StaveHouseModel" "StaveHouseModel" "out" "[B"), (Jvm.Cond.lays "StaveHouseModel" "StaveHouseModel" "outs" "I"), (Jvm.Cond.lays "StaveHouseModel" "StaveHouseModel" "isOpen" "Z"), (Jvm.Cond.laysFinal "StaveHouseModel" "StaveHouseModel" "told" "[I"), (Jvm.Cond.laysFinal "StaveHouseModel" "StaveHouseModel" "toldNow" "[I"), (Jvm.Cond.laysFinal "StaveHouseModel" "StaveHouseModel" "soundTrack" "[I"), (Jvm.Cond.laysFinal "StaveHouseModel" "StaveHouseModel" "soundChannel" "[I"), (Jvm.Cond.laysFinal "StaveHouseModel" "StaveHouseModel" "soundTone" "[I"), (Jvm.Cond.laysFinal "StaveHouseModel" "StaveHouseModel" "soundForce" "[I"), (Jvm.Cond.laysFinal "StaveHouseModel" "StaveHouseModel" "soundBegin" "[J"), (Jvm.Cond.laysFinal "StaveHouseModel" "StaveHouseModel" "soundEnd" "[J"), (Jvm.Cond.laysFinal "StaveHouseModel" "StaveHouseModel" "trackNumber" "[I"), (Jvm.Cond.laysFinal "StaveHouseModel" "StaveHouseModel" "nowTrack" "[I"), (Jvm.Cond.laysFinal "StaveHouseModel" "StaveHouseModel" "nowChannel" "[I"), (Jvm.Cond.laysFinal "StaveHouseModel" "StaveHouseModel" "nowTone" "[I"), (Jvm.Cond.laysFinal "StaveHouseModel" "StaveHouseModel" "nowForce" "[I"), (Jvm.Cond.laysFinal "StaveHouseModel" "StaveHouseModel" "nowBegin" "[J"), (Jvm.Cond.laysFinal "StaveHouseModel" "StaveHouseModel" "nowEnd" "[J"), (Jvm.Cond.laysFinal "StaveHouseModel" "StaveHouseModel" "nowNumber" "[I"), (Jvm.Cond.lays "StaveHouseModel" "StaveHouseModel" "p" "I"), (Jvm.Cond.lays "StaveHouseModel" "StaveHouseModel" "limit" "J"), (Jvm.Cond.lays "StaveHouseModel" "StaveHouseModel" "hasTime" "Z"), (Jvm.Cond.lays "StaveHouseModel" "StaveHouseModel" "hasKey" "Z"), (Jvm.Cond.lays "StaveHouseModel" "StaveHouseModel" "hasTempo" "Z"), (Jvm.Cond.lays "StaveHouseModel" "StaveHouseModel" "nowSounds" "I"), (Jvm.Cond.laysFinal "StaveHouseModel" "StaveHouseModel" "sixTones" "[I"), (Jvm.Cond.laysFinal "StaveHouseModel" "StaveHouseModel" "table" "[I"), (Jvm.Cond.laysFinal "StaveHouseModel" "StaveHouseModel" "moves" "[I"), (Jvm.Cond.laysFinal "StaveHouseModel" "StaveHouseModel" "classLetter" "[I"), (Jvm.Cond.laysFinal "StaveHouseModel" "StaveHouseModel" "classAlt" "[I"), (Jvm.Cond.lays "StaveHouseModel" "StaveHouseModel" "classes" "I"), (Jvm.Cond.lays "StaveHouseModel" "StaveHouseModel" "bass" "I"), (Jvm.Cond.lays "StaveHouseModel" "StaveHouseModel" "bassStep" "I"), (Jvm.Cond.lays "StaveHouseModel" "StaveHouseModel" "bassAlt" "I"), (Jvm.Cond.lays "StaveHouseModel" "StaveHouseModel" "chordKind" "I"), (Jvm.Cond.lays "StaveHouseModel" "StaveHouseModel" "root" "I"), (Jvm.Cond.laysFinal "StaveHouseModel" "StaveHouseModel" "weights" "[I")], w ∈ wAll
  exact List.forall_mem_cons.mpr ⟨k_11_105, List.forall_mem_cons.mpr ⟨k_11_107, List.forall_mem_cons.mpr ⟨k_11_109, List.forall_mem_cons.mpr ⟨k_11_111, List.forall_mem_cons.mpr ⟨k_11_113, List.forall_mem_cons.mpr ⟨k_11_115, List.forall_mem_cons.mpr ⟨k_11_117, List.forall_mem_cons.mpr ⟨k_11_119, List.forall_mem_cons.mpr ⟨k_11_121, List.forall_mem_cons.mpr ⟨k_11_123, List.forall_mem_cons.mpr ⟨k_11_125, List.forall_mem_cons.mpr ⟨k_11_127, List.forall_mem_cons.mpr ⟨k_11_129, List.forall_mem_cons.mpr ⟨k_11_131, List.forall_mem_cons.mpr ⟨k_11_133, List.forall_mem_cons.mpr ⟨k_11_135, List.forall_mem_cons.mpr ⟨k_11_137, List.forall_mem_cons.mpr ⟨k_11_139, List.forall_mem_cons.mpr ⟨k_11_141, List.forall_mem_cons.mpr ⟨k_11_143, List.forall_mem_cons.mpr ⟨k_11_145, List.forall_mem_cons.mpr ⟨k_11_147, List.forall_mem_cons.mpr ⟨k_11_149, List.forall_mem_cons.mpr ⟨k_11_151, List.forall_mem_cons.mpr ⟨k_11_153, List.forall_mem_cons.mpr ⟨k_11_155, List.forall_mem_cons.mpr ⟨k_11_157, List.forall_mem_cons.mpr ⟨k_11_159, List.forall_mem_cons.mpr ⟨k_11_161, List.forall_mem_cons.mpr ⟨k_11_163, List.forall_mem_cons.mpr ⟨k_11_165, List.forall_mem_cons.mpr ⟨k_11_167, List.forall_mem_cons.mpr ⟨k_11_169, List.forall_mem_cons.mpr ⟨k_11_171, List.forall_mem_cons.mpr ⟨k_11_173, List.forall_mem_cons.mpr ⟨k_11_175, List.forall_mem_cons.mpr ⟨k_11_177, List.forall_mem_cons.mpr ⟨k_11_179, List.forall_mem_cons.mpr ⟨k_11_181, List.forall_mem_cons.mpr ⟨k_11_183, List.forall_mem_cons.mpr ⟨k_11_185, List.forall_mem_cons.mpr ⟨k_11_187, List.forall_mem_cons.mpr ⟨k_11_189, List.forall_mem_cons.mpr ⟨k_11_191, List.forall_mem_cons.mpr ⟨k_11_193, List.forall_mem_cons.mpr ⟨k_11_195, List.forall_mem_cons.mpr ⟨k_11_197, List.forall_mem_cons.mpr ⟨k_11_199, List.forall_mem_cons.mpr ⟨k_11_201, List.forall_mem_cons.mpr ⟨k_11_203, List.forall_mem_cons.mpr ⟨k_11_205, List.forall_mem_cons.mpr ⟨k_11_207, List.forall_mem_cons.mpr ⟨k_11_209, List.forall_mem_cons.mpr ⟨k_11_211, List.forall_mem_cons.mpr ⟨k_11_213, List.forall_mem_cons.mpr ⟨k_11_215, List.forall_mem_cons.mpr ⟨k_11_217, List.forall_mem_cons.mpr ⟨k_11_219, List.forall_mem_cons.mpr ⟨k_11_221, List.forall_mem_cons.mpr ⟨k_11_223, List.forall_mem_cons.mpr ⟨k_11_225, List.forall_mem_cons.mpr ⟨k_11_227, List.forall_mem_cons.mpr ⟨k_11_229, List.forall_mem_cons.mpr ⟨k_11_231, List.forall_mem_cons.mpr ⟨k_11_233, List.forall_mem_cons.mpr ⟨k_11_235, List.forall_mem_cons.mpr ⟨k_11_237, List.forall_mem_cons.mpr ⟨k_11_239, List.forall_mem_cons.mpr ⟨k_12_1, List.forall_mem_cons.mpr ⟨k_12_3, List.forall_mem_cons.mpr ⟨k_12_5, List.forall_mem_cons.mpr ⟨k_12_7, List.forall_mem_cons.mpr ⟨k_12_9, List.forall_mem_cons.mpr ⟨k_12_11, List.forall_mem_cons.mpr ⟨k_12_13, List.forall_mem_cons.mpr ⟨k_12_15, List.forall_mem_cons.mpr ⟨k_12_17, List.forall_mem_cons.mpr ⟨k_12_19, List.forall_mem_cons.mpr ⟨k_12_21, List.forall_mem_cons.mpr ⟨k_12_23, List.forall_mem_cons.mpr ⟨k_12_25, List.forall_mem_cons.mpr ⟨k_12_27, List.forall_mem_cons.mpr ⟨k_12_29, List.forall_mem_cons.mpr ⟨k_12_31, List.forall_mem_cons.mpr ⟨k_12_33, List.forall_mem_cons.mpr ⟨k_12_35, List.forall_mem_cons.mpr ⟨k_12_37, List.forall_mem_cons.mpr ⟨k_12_39, List.forall_mem_cons.mpr ⟨k_12_41, List.forall_mem_cons.mpr ⟨k_12_43, List.forall_mem_cons.mpr ⟨k_12_45, List.forall_mem_cons.mpr ⟨k_12_47, List.forall_mem_cons.mpr ⟨k_12_49, List.forall_mem_cons.mpr ⟨k_12_51, List.forall_mem_cons.mpr ⟨k_12_53, List.forall_mem_cons.mpr ⟨k_12_55, List.forall_mem_cons.mpr ⟨k_12_57, List.forall_mem_cons.mpr ⟨k_12_59, List.forall_mem_cons.mpr ⟨k_12_61, List.forall_mem_cons.mpr ⟨k_12_63, List.forall_mem_cons.mpr ⟨k_12_65, List.forall_mem_cons.mpr ⟨k_12_67, List.forall_mem_cons.mpr ⟨k_12_69, List.forall_mem_cons.mpr ⟨k_12_71, List.forall_mem_cons.mpr ⟨k_12_73, List.forall_mem_cons.mpr ⟨k_12_75, List.forall_mem_cons.mpr ⟨k_12_77, fun _ h => absurd h List.not_mem_nil⟩⟩⟩⟩⟩⟩⟩⟩⟩⟩⟩⟩⟩⟩⟩⟩⟩⟩⟩⟩⟩⟩⟩⟩⟩⟩⟩⟩⟩⟩⟩⟩⟩⟩⟩⟩⟩⟩⟩⟩⟩⟩⟩⟩⟩⟩⟩⟩⟩⟩⟩⟩⟩⟩⟩⟩⟩⟩⟩⟩⟩⟩⟩⟩⟩⟩⟩⟩⟩⟩⟩⟩⟩⟩⟩⟩⟩⟩⟩⟩⟩⟩⟩⟩⟩⟩⟩⟩⟩⟩⟩⟩⟩⟩⟩⟩⟩⟩⟩⟩⟩⟩⟩⟩⟩⟩⟩
abbrev Q_M_code (D : va_G) (ca : Nat → ClassId) (ad : Nat → Int → Nat → Nat) (L : List Nat) (r : Int) (F : zF) (B : zB) (A : Nat → Prop) : Array Value → State → Outcome → State → Prop := va_Ql (S := Unit) (fun p _ => p = lI r) (fun _ => zPo D ca ad lnM nM L F B A) A
def f_M_code_4 (K : Nat) : Nat → Int → Int → Nat → zF → zB → zO
  | 0, _, _, _, _, _ => none
  | n + 1, l3, l1, l0, F, B => if l0 < strL.length then zbind (f_String_length K l0 F B) (fun r2 F2 B2 => if r32 l3 then if r32 r2 then (if r2 ≤ l3 then some (l1, F2, B2) else zbind (f_String_charAt K l0 l3 F2 B2) (fun r6 F6 B6 => if r32 r6 then f_M_code_4 K n (l3 + 1) (zlor (zlshl l1 8) r6) l0 F6 B6 else none)) else none else none) else none
set_option maxHeartbeats 4000000 in
set_option maxRecDepth 100000 in
theorem b_M_code_4 {D : va_G} {ca : Nat → ClassId} {ad : Nat → Int → Nat → Nat} {L : List Nat} {aS vS : Nat → Nat} {A : Nat → Prop} {p : Program} {l : Launch} {e : Env} {s : State} {m : MethodId} {args : Array Value} {below : List Frame} {meth : Method} {c : Code} {K : Nat} {r : Int} {F9 : zF} {B9 : zB} (X : zX D ca L aS vS A p s m args meth c prog_15_method_24_code 4 (Option.some Jvm.ClassFile.FieldType.long) "StaveHouseModel") : ∀ {n : Nat} {l3 : Int} {l1 : Int} {l0 : Nat} {F : zF} {B : zB} {H : Heap} {locs : List Loc} {ls : Array Slot}, f_M_code_4 K n l3 l1 l0 F B = some (r, F9, B9) → zH D ca ad lnM nM L F B A H → va_S A s.heap H locs → lv_has ls 4 [(3, .int (iI l3)), (1, .long (lI l1)), (0, .ref (aS l0))] → W p l e ({ frames := 4, cells := 0, slots := 0, locals := 85 } : Room) s m args below meth c H locs 0 0 (MQ below (Q_M_code D ca ad L r F9 B9 A) args s 0 0 A) (F0 m 4 ls []) := by
  obtain ⟨hx, hb, hr, hml, hown, hts, hlk, hK, hA, hL, hX⟩ := id X
  intro n
  induction n with
  | zero =>
    intros
    rename_i hf _ _ _
    cases hf
  | succ n ih =>
    intro l3 l1 l0 F B H locs ls hf hZ hS hl
    replace hf : (if l0 < strL.length then zbind (f_String_length K l0 F B) (fun r2 F2 B2 => if r32 l3 then if r32 r2 then (if r2 ≤ l3 then some (l1, F2, B2) else zbind (f_String_charAt K l0 l3 F2 B2) (fun r6 F6 B6 => if r32 r6 then f_M_code_4 K n (l3 + 1) (zlor (zlshl l1 8) r6) l0 F6 B6 else none)) else none else none) else none) = some (r, F9, B9) := hf
    refine lv_iload_n hx hb d_15_24_4 rfl (lv_at hl 0 rfl) ?_
    refine lv_aload_n hx hb d_15_24_5 rfl (lv_at hl 2 rfl) ?_
    obtain ⟨g1, hf⟩ := gif hf
    obtain ⟨r2, F2, B2, hc2, hf⟩ := gbind hf
    refine va_calli (va_runV (As := []) (rest := [.int (iI l3)]) ⟨hx, hb, hml, hown, hts⟩ (c_String_length (l := l) hc2) (cwV 0 hts (gdV k_10_194 k_3_82 k_3_83 k_1_11 k_3_84) rfl rfl rfl (by decide +kernel) ⟨Nat.le_of_ble_eq_true rfl, Nat.le_of_ble_eq_true rfl⟩) ⟨zBlind, zsrecv hX g1 hS, zAt X hZ hS [.ref (aS l0)]⟩ rfl rfl hl.1 rfl (lv_room (Nat.le_of_ble_eq_true rfl)) d_15_24_6 ⟨Nat.le_of_ble_eq_true rfl, Nat.le_of_ble_eq_true rfl⟩) hS (fun q _ h => zAin X hS q h) (zAin X hS) (fun p2 u2 t2 H2 locs2 ht2 hv2 hw2 hB2 hz2 hk2 hS2 => ?_)
    have hZ2 := zBack X ht2 hB2
    subst hw2
    obtain ⟨g3, hf⟩ := gif hf
    obtain ⟨g4, hf⟩ := gif hf
    refine zge (tgt := 30) hx hb g3 g4 d_15_24_9 (by decide) (fun h5 => ?_) (fun h5 => ?_)
    · replace hf := gpos hf h5
      refine lv_lload_n hx hb d_15_24_30 rfl (lv_at hl 1 rfl) ?_
      cases hf
      exact W.lret hx hb hr (fun t ht hW => ⟨⟨_, (), rfl, rfl, by rw [ht]; exact hZ2, va_K.moved hW.alike hK⟩, hS2.F ht⟩) hS2.2.2 d_15_24_31 hlk
    · replace hf := gneg hf h5
      refine lv_lload_n hx hb d_15_24_12 rfl (lv_at hl 1 rfl) ?_
      refine lv_bipush (v := iI 8) hx hb d_15_24_13 (by decide) ?_
      refine zlshl_r hx hb d_15_24_15 ?_
      refine lv_aload_n hx hb d_15_24_16 rfl (lv_at hl 2 rfl) ?_
      refine lv_iload_n hx hb d_15_24_17 rfl (lv_at hl 0 rfl) ?_
      obtain ⟨r6, F6, B6, hc6, hf⟩ := gbind hf
      refine va_calli (va_runV (As := [.int (iI l3)]) (rest := [.long (lI (zlshl l1 8))]) ⟨hx, hb, hml, hown, hts⟩ (c_String_charAt (l := l) hc6) (cwV 1 hts (gdV k_10_195 k_7_134 k_7_135 k_1_11 k_7_136) rfl rfl rfl (by decide +kernel) ⟨Nat.le_of_ble_eq_true rfl, Nat.le_of_ble_eq_true rfl⟩) ⟨zBlind, zsrecv hX g1 hS2, zAt X hZ2 hS2 [.ref (aS l0), .int (iI l3)]⟩ rfl rfl hl.1 rfl (lv_room (Nat.le_of_ble_eq_true rfl)) d_15_24_18 ⟨Nat.le_of_ble_eq_true rfl, Nat.le_of_ble_eq_true rfl⟩) hS2 (fun q _ h => zAin X hS2 q h) (zAin X hS2) (fun p6 u6 t6 H6 locs6 ht6 hv6 hw6 hB6 hz6 hk6 hS6 => ?_)
      have hZ6 := zBack X ht6 hB6
      subst hw6
      obtain ⟨g7, hf⟩ := gif hf
      refine zi2l hx hb g7 d_15_24_21 ?_
      refine zlor_r hx hb d_15_24_22 ?_
      refine lv_lstore_n (lv' := [(1, .long (lI (zlor (zlshl l1 8) r6))), (3, .int (iI l3)), (0, .ref (aS l0))]) hx hb d_15_24_23 rfl hl (by decide) rfl (fun ls hl => ?_)
      refine lv_iinc (v := iI (l3 + 1)) (lv' := [(3, .int (iI (l3 + 1))), (1, .long (lI (zlor (zlshl l1 8) r6))), (0, .ref (aS l0))]) hx hb d_15_24_24 hl (k := 1) rfl (iI_add _ 1) (by decide) rfl (fun ls hl => ?_)
      refine lv_goto (tgt := 4) hx hb d_15_24_27 (by decide) ?_
      exact ih hf hZ6 hS6 (lv_sub hl [0, 1, 2] rfl)

def f_M_code (K : Nat) (l0 : Nat) (F : zF) (B : zB) : zO := f_M_code_4 K K 0 0 l0 F B
set_option maxHeartbeats 4000000 in
set_option maxRecDepth 100000 in
theorem c_M_code {l : Launch} {D : va_G} {ca : Nat → ClassId} {ad : Nat → Int → Nat → Nat} {L : List Nat} {aS vS : Nat → Nat} {sz K : Nat}  {l0 : Nat} {F F9 : zF} {B B9 : zB} {r : Int} (hf : f_M_code K l0 F B = some (r, F9, B9)) : Met l ({ cls := "StaveHouseModel", name := "code", desc := "(Ljava/lang/String;)J" } : Jvm.MethodName) (Cond.code ({ cls := "StaveHouseModel", name := "code", desc := "(Ljava/lang/String;)J" } : Jvm.MethodName) prog_15_method_24_code 4 (Option.some Jvm.ClassFile.FieldType.long) :: wAll) ({ frames := 4, cells := 0, slots := 0, locals := 85 } : Room) (va_Pc [.ref (aS l0)] (zPre D ca ad lnM nM L aS vS F B sz)) (Q_M_code D ca ad L r F9 B9 (zA L sz)) 0 0 (zA L sz) := by
  refine zMet (Qc := Q_M_code D ca ad L r F9 B9) (lv := [(0, .ref (aS l0))]) (by decide) (Nat.le_of_ble_eq_true rfl) rfl (fun A p e s m below meth c ls X hZ hS hl => ?_)
  obtain ⟨hx, hb, hr, hml, hown, hts, hlk, hK, hA, hL, hX⟩ := id X
  replace hf : (f_M_code_4 K K 0 0 l0 F B) = some (r, F9, B9) := hf
  refine lv_lconst (v := lI 0) hx hb d_15_24_0 (by decide) ?_
  refine lv_lstore_n (lv' := [(1, .long (lI 0)), (0, .ref (aS l0))]) hx hb d_15_24_1 rfl hl (by decide) rfl (fun ls hl => ?_)
  refine lv_iconst (v := iI 0) hx hb d_15_24_2 rfl ?_
  refine lv_istore_n (lv' := [(3, .int (iI 0)), (1, .long (lI 0)), (0, .ref (aS l0))]) hx hb d_15_24_3 rfl hl (by decide) rfl (fun ls hl => ?_)
  exact b_M_code_4 X hf hZ hS (lv_sub hl [0, 1, 2] rfl)

abbrev Q_M_feed (D : va_G) (ca : Nat → ClassId) (ad : Nat → Int → Nat → Nat) (L : List Nat) (r : Int) (F : zF) (B : zB) (A : Nat → Prop) : Array Value → State → Outcome → State → Prop := va_Qv (S := Unit) (fun _ => True) (fun _ => zPo D ca ad lnM nM L F B A) A
def f_M_feed_56 (rec3 : Int → Int → Int → Int → Int → Int → zF → zB → zO) (K : Nat) (l6 : Int) (l1 : Int) (l2 : Int) (l3 : Int) (l4 : Int) (l5 : Int) (s0 : Int) (F : zF) (B : zB) : zO := if 0 ≤ l6 ∧ l6 < 20 then rec3 (l6 + 1) l1 l2 l3 l4 l5 F (zup4 B 14 0 4 l6 (zi2b (zi2b (zshr s0 (24 - (8 * (zrm l6 4))))))) else none
set_option maxHeartbeats 4000000 in
set_option maxRecDepth 100000 in
theorem b_M_feed_56 {D : va_G} {ca : Nat → ClassId} {ad : Nat → Int → Nat → Nat} {L : List Nat} {aS vS : Nat → Nat} {A : Nat → Prop} {p : Program} {l : Launch} {e : Env} {s : State} {m : MethodId} {args : Array Value} {below : List Frame} {meth : Method} {c : Code} {K : Nat} {r : Int} {F9 : zF} {B9 : zB} (X : zX D ca L aS vS A p s m args meth c prog_15_method_12_code 8 (Option.none : Option Jvm.ClassFile.FieldType) "StaveHouseModel") {rec3 : Int → Int → Int → Int → Int → Int → zF → zB → zO} (hrec3 : ∀ {l6 : Int} {l1 : Int} {l2 : Int} {l3 : Int} {l4 : Int} {l5 : Int} {F : zF} {B : zB} {H : Heap} {locs : List Loc} {ls : Array Slot}, rec3 l6 l1 l2 l3 l4 l5 F B = some (r, F9, B9) → zH D ca ad lnM nM L F B A H → va_S A s.heap H locs → lv_has ls 8 [(6, .int (iI l6)), (0, .ref (ad 14 0 0)), (1, .int (iI l1)), (2, .int (iI l2)), (3, .int (iI l3)), (4, .int (iI l4)), (5, .int (iI l5))] → W p l e ({ frames := 0, cells := 0, slots := 0, locals := 0 } : Room) s m args below meth c H locs 0 0 (MQ below (Q_M_feed D ca ad L r F9 B9 A) args s 0 0 A) (F0 m 3 ls [])) {l6 : Int} {l1 : Int} {l2 : Int} {l3 : Int} {l4 : Int} {l5 : Int} {s0 : Int} {F : zF} {B : zB} {H : Heap} {locs : List Loc} {ls : Array Slot} (hf : f_M_feed_56 rec3 K l6 l1 l2 l3 l4 l5 s0 F B = some (r, F9, B9)) (hZ : zH D ca ad lnM nM L F B A H) (hS : va_S A s.heap H locs) (hl : lv_has ls 8 [(6, .int (iI l6)), (0, .ref (ad 14 0 0)), (1, .int (iI l1)), (2, .int (iI l2)), (3, .int (iI l3)), (4, .int (iI l4)), (5, .int (iI l5))]) : W p l e ({ frames := 0, cells := 0, slots := 0, locals := 0 } : Room) s m args below meth c H locs 0 0 (MQ below (Q_M_feed D ca ad L r F9 B9 A) args s 0 0 A) (F0 m 56 ls [.int (iI s0)]) := by
  obtain ⟨hx, hb, hr, hml, hown, hts, hlk, hK, hA, hL, hX⟩ := id X
  replace hf : (if 0 ≤ l6 ∧ l6 < 20 then rec3 (l6 + 1) l1 l2 l3 l4 l5 F (zup4 B 14 0 4 l6 (zi2b (zi2b (zshr s0 (24 - (8 * (zrm l6 4))))))) else none) = some (r, F9, B9) := hf
  refine lv_istore (lv' := [(7, .int (iI s0)), (6, .int (iI l6)), (0, .ref (ad 14 0 0)), (1, .int (iI l1)), (2, .int (iI l2)), (3, .int (iI l3)), (4, .int (iI l4)), (5, .int (iI l5))]) hx hb (D_54 W_prog_15_method_12_code_32 24 rfl rfl) hl (by decide) rfl (fun ls hl => ?_)
  refine lv_aload_n hx hb (D_42 W_prog_15_method_12_code_32 26 rfl rfl) rfl (lv_at hl 2 rfl) ?_
  refine zget (ci := 14) (C := RX14) (T := TX14) (v := .ref (ad 14 0 (4 + 1))) (k := 4) hx hb hts inW_14 hown hK hZ (by decide) (by decide) rfl (by decide) k_11_2 rfl (D_180 W_prog_15_method_12_code_32 27 rfl rfl rfl) ?_
  refine lv_iload hx hb (D_21 W_prog_15_method_12_code_32 30 rfl rfl) (lv_at hl 1 rfl) ?_
  refine lv_iload hx hb (D_21 W_prog_15_method_12_code_64 0 rfl rfl) (lv_at hl 0 rfl) ?_
  refine lv_bipush (v := iI 24) hx hb (D_16 W_prog_15_method_12_code_64 2 rfl rfl rfl) (by decide) ?_
  refine lv_bipush (v := iI 8) hx hb (D_16 W_prog_15_method_12_code_64 4 rfl rfl rfl) (by decide) ?_
  refine lv_iload hx hb (D_21 W_prog_15_method_12_code_64 6 rfl rfl) (lv_at hl 1 rfl) ?_
  refine lv_iconst (v := iI 4) hx hb (D_7 W_prog_15_method_12_code_64 8 rfl rfl) rfl ?_
  refine zrm_r hx hb (by decide) (D_112 W_prog_15_method_12_code_64 9 rfl rfl) ?_
  refine zmul hx hb (D_104 W_prog_15_method_12_code_64 10 rfl rfl) ?_
  refine zsub hx hb (D_100 W_prog_15_method_12_code_64 11 rfl rfl) ?_
  refine zshr_r hx hb (D_122 W_prog_15_method_12_code_64 12 rfl rfl) ?_
  refine zi2b_r hx hb (D_145 W_prog_15_method_12_code_64 13 rfl rfl) ?_
  obtain ⟨g7, hf⟩ := gif hf
  refine zbast (ci := 14) (k := 4) hx hb hK rfl hZ hS (by decide) (by decide) rfl (Nat.le_of_ble_eq_true rfl) g7.1 g7.2 (D_84 W_prog_15_method_12_code_64 14 rfl rfl) (fun H8 locs8 hZ8 hS8 => ?_)
  refine lv_iinc (v := iI (l6 + 1)) (lv' := [(6, .int (iI (l6 + 1))), (7, .int (iI s0)), (0, .ref (ad 14 0 0)), (1, .int (iI l1)), (2, .int (iI l2)), (3, .int (iI l3)), (4, .int (iI l4)), (5, .int (iI l5))]) hx hb d_15_12_79 hl (k := 1) rfl (iI_add _ 1) (by decide) rfl (fun ls hl => ?_)
  refine lv_goto (tgt := 3) hx hb (D_167 W_prog_15_method_12_code_64 18 rfl rfl rfl) (by decide) ?_
  exact hrec3 hf hZ8 hS8 (lv_sub hl [0, 2, 3, 4, 5, 6, 7] rfl)

def f_M_feed_3 (K : Nat) : Nat → Int → Int → Int → Int → Int → Int → zF → zB → zO
  | 0, _, _, _, _, _, _, _, _ => none
  | n + 1, l6, l1, l2, l3, l4, l5, F, B => if r32 l6 then (if 20 ≤ l6 then some (0, F, B) else (if 4 ≤ l6 then (if 8 ≤ l6 then (if 12 ≤ l6 then (if 16 ≤ l6 then f_M_feed_56 (f_M_feed_3 K n) K l6 l1 l2 l3 l4 l5 l5 F B else f_M_feed_56 (f_M_feed_3 K n) K l6 l1 l2 l3 l4 l5 l4 F B) else f_M_feed_56 (f_M_feed_3 K n) K l6 l1 l2 l3 l4 l5 l3 F B) else f_M_feed_56 (f_M_feed_3 K n) K l6 l1 l2 l3 l4 l5 l2 F B) else f_M_feed_56 (f_M_feed_3 K n) K l6 l1 l2 l3 l4 l5 l1 F B)) else none
set_option maxHeartbeats 4000000 in
set_option maxRecDepth 100000 in
theorem b_M_feed_3 {D : va_G} {ca : Nat → ClassId} {ad : Nat → Int → Nat → Nat} {L : List Nat} {aS vS : Nat → Nat} {A : Nat → Prop} {p : Program} {l : Launch} {e : Env} {s : State} {m : MethodId} {args : Array Value} {below : List Frame} {meth : Method} {c : Code} {K : Nat} {r : Int} {F9 : zF} {B9 : zB} (X : zX D ca L aS vS A p s m args meth c prog_15_method_12_code 8 (Option.none : Option Jvm.ClassFile.FieldType) "StaveHouseModel") : ∀ {n : Nat} {l6 : Int} {l1 : Int} {l2 : Int} {l3 : Int} {l4 : Int} {l5 : Int} {F : zF} {B : zB} {H : Heap} {locs : List Loc} {ls : Array Slot}, f_M_feed_3 K n l6 l1 l2 l3 l4 l5 F B = some (r, F9, B9) → zH D ca ad lnM nM L F B A H → va_S A s.heap H locs → lv_has ls 8 [(6, .int (iI l6)), (0, .ref (ad 14 0 0)), (1, .int (iI l1)), (2, .int (iI l2)), (3, .int (iI l3)), (4, .int (iI l4)), (5, .int (iI l5))] → W p l e ({ frames := 0, cells := 0, slots := 0, locals := 0 } : Room) s m args below meth c H locs 0 0 (MQ below (Q_M_feed D ca ad L r F9 B9 A) args s 0 0 A) (F0 m 3 ls []) := by
  obtain ⟨hx, hb, hr, hml, hown, hts, hlk, hK, hA, hL, hX⟩ := id X
  intro n
  induction n with
  | zero =>
    intros
    rename_i hf _ _ _
    cases hf
  | succ n ih =>
    intro l6 l1 l2 l3 l4 l5 F B H locs ls hf hZ hS hl
    replace hf : (if r32 l6 then (if 20 ≤ l6 then some (0, F, B) else (if 4 ≤ l6 then (if 8 ≤ l6 then (if 12 ≤ l6 then (if 16 ≤ l6 then f_M_feed_56 (f_M_feed_3 K n) K l6 l1 l2 l3 l4 l5 l5 F B else f_M_feed_56 (f_M_feed_3 K n) K l6 l1 l2 l3 l4 l5 l4 F B) else f_M_feed_56 (f_M_feed_3 K n) K l6 l1 l2 l3 l4 l5 l3 F B) else f_M_feed_56 (f_M_feed_3 K n) K l6 l1 l2 l3 l4 l5 l2 F B) else f_M_feed_56 (f_M_feed_3 K n) K l6 l1 l2 l3 l4 l5 l1 F B)) else none) = some (r, F9, B9) := hf
    refine lv_iload hx hb (D_21 W_prog_15_method_12_code_0 3 rfl rfl) (lv_at hl 0 rfl) ?_
    refine lv_bipush (v := iI 20) hx hb (D_16 W_prog_15_method_12_code_0 5 rfl rfl rfl) (by decide) ?_
    obtain ⟨g1, hf⟩ := gif hf
    refine zge (tgt := 85) hx hb g1 (by decide) (D_162 W_prog_15_method_12_code_0 7 rfl rfl rfl) (by decide) (fun h2 => ?_) (fun h2 => ?_)
    · replace hf := gpos hf h2
      cases hf
      exact W.vret hx hb hr (fun t ht hW => ⟨⟨(), rfl, trivial, by rw [ht]; exact hZ, va_K.moved hW.alike hK⟩, hS.F ht⟩) hS.2.2 (D_177 W_prog_15_method_12_code_64 21 rfl rfl) hlk
    · replace hf := gneg hf h2
      refine lv_iload hx hb (D_21 W_prog_15_method_12_code_0 10 rfl rfl) (lv_at hl 0 rfl) ?_
      refine lv_iconst (v := iI 4) hx hb (D_7 W_prog_15_method_12_code_0 12 rfl rfl) rfl ?_
      refine zge (tgt := 20) hx hb g1 (by decide) (D_162 W_prog_15_method_12_code_0 13 rfl rfl rfl) (by decide) (fun h3 => ?_) (fun h3 => ?_)
      · replace hf := gpos hf h3
        refine lv_iload hx hb (D_21 W_prog_15_method_12_code_0 20 rfl rfl) (lv_at hl 0 rfl) ?_
        refine lv_bipush (v := iI 8) hx hb (D_16 W_prog_15_method_12_code_0 22 rfl rfl rfl) (by decide) ?_
        refine zge (tgt := 31) hx hb g1 (by decide) (D_162 W_prog_15_method_12_code_0 24 rfl rfl rfl) (by decide) (fun h4 => ?_) (fun h4 => ?_)
        · replace hf := gpos hf h4
          refine lv_iload hx hb (D_21 W_prog_15_method_12_code_0 31 rfl rfl) (lv_at hl 0 rfl) ?_
          refine lv_bipush (v := iI 12) hx hb (D_16 W_prog_15_method_12_code_32 1 rfl rfl rfl) (by decide) ?_
          refine zge (tgt := 42) hx hb g1 (by decide) (D_162 W_prog_15_method_12_code_32 3 rfl rfl rfl) (by decide) (fun h5 => ?_) (fun h5 => ?_)
          · replace hf := gpos hf h5
            refine lv_iload hx hb (D_21 W_prog_15_method_12_code_32 10 rfl rfl) (lv_at hl 0 rfl) ?_
            refine lv_bipush (v := iI 16) hx hb (D_16 W_prog_15_method_12_code_32 12 rfl rfl rfl) (by decide) ?_
            refine zge (tgt := 54) hx hb g1 (by decide) (D_162 W_prog_15_method_12_code_32 14 rfl rfl rfl) (by decide) (fun h6 => ?_) (fun h6 => ?_)
            · replace hf := gpos hf h6
              refine lv_iload hx hb (D_21 W_prog_15_method_12_code_32 22 rfl rfl) (lv_at hl 6 rfl) ?_
              exact b_M_feed_56 X ih hf hZ hS (lv_sub hl [0, 1, 2, 3, 4, 5, 6] rfl)
            · replace hf := gneg hf h6
              refine lv_iload hx hb (D_21 W_prog_15_method_12_code_32 17 rfl rfl) (lv_at hl 5 rfl) ?_
              refine lv_goto (tgt := 56) hx hb (D_167 W_prog_15_method_12_code_32 19 rfl rfl rfl) (by decide) ?_
              exact b_M_feed_56 X ih hf hZ hS (lv_sub hl [0, 1, 2, 3, 4, 5, 6] rfl)
          · replace hf := gneg hf h5
            refine lv_iload_n hx hb (D_29 W_prog_15_method_12_code_32 6 rfl rfl) rfl (lv_at hl 4 rfl) ?_
            refine lv_goto (tgt := 56) hx hb (D_167 W_prog_15_method_12_code_32 7 rfl rfl rfl) (by decide) ?_
            exact b_M_feed_56 X ih hf hZ hS (lv_sub hl [0, 1, 2, 3, 4, 5, 6] rfl)
        · replace hf := gneg hf h4
          refine lv_iload_n hx hb (D_28 W_prog_15_method_12_code_0 27 rfl rfl) rfl (lv_at hl 3 rfl) ?_
          refine lv_goto (tgt := 56) hx hb (D_167 W_prog_15_method_12_code_0 28 rfl rfl rfl) (by decide) ?_
          exact b_M_feed_56 X ih hf hZ hS (lv_sub hl [0, 1, 2, 3, 4, 5, 6] rfl)
      · replace hf := gneg hf h3
        refine lv_iload_n hx hb (D_27 W_prog_15_method_12_code_0 16 rfl rfl) rfl (lv_at hl 2 rfl) ?_
        refine lv_goto (tgt := 56) hx hb (D_167 W_prog_15_method_12_code_0 17 rfl rfl rfl) (by decide) ?_
        exact b_M_feed_56 X ih hf hZ hS (lv_sub hl [0, 1, 2, 3, 4, 5, 6] rfl)

def f_M_feed (K : Nat) (l1 : Int) (l2 : Int) (l3 : Int) (l4 : Int) (l5 : Int) (F : zF) (B : zB) : zO := f_M_feed_3 K K 0 l1 l2 l3 l4 l5 F B
set_option maxHeartbeats 4000000 in
set_option maxRecDepth 100000 in
theorem c_M_feed {l : Launch} {D : va_G} {ca : Nat → ClassId} {ad : Nat → Int → Nat → Nat} {L : List Nat} {aS vS : Nat → Nat} {sz K : Nat}  {l1 : Int} {l2 : Int} {l3 : Int} {l4 : Int} {l5 : Int} {F F9 : zF} {B B9 : zB} {r : Int} (hf : f_M_feed K l1 l2 l3 l4 l5 F B = some (r, F9, B9)) : Met l ({ cls := "StaveHouseModel", name := "feed", desc := "(IIIII)V" } : Jvm.MethodName) (Cond.code ({ cls := "StaveHouseModel", name := "feed", desc := "(IIIII)V" } : Jvm.MethodName) prog_15_method_12_code 8 (Option.none : Option Jvm.ClassFile.FieldType) :: wAll) ({ frames := 0, cells := 0, slots := 0, locals := 0 } : Room) (va_Pc [.ref (ad 14 0 0), .int (iI l1), .int (iI l2), .int (iI l3), .int (iI l4), .int (iI l5)] (zPre D ca ad lnM nM L aS vS F B sz)) (Q_M_feed D ca ad L r F9 B9 (zA L sz)) 0 0 (zA L sz) := by
  refine zMet (Qc := Q_M_feed D ca ad L r F9 B9) (lv := [(0, .ref (ad 14 0 0)), (1, .int (iI l1)), (2, .int (iI l2)), (3, .int (iI l3)), (4, .int (iI l4)), (5, .int (iI l5))]) (by decide) (Nat.le_of_ble_eq_true rfl) rfl (fun A p e s m below meth c ls X hZ hS hl => ?_)
  obtain ⟨hx, hb, hr, hml, hown, hts, hlk, hK, hA, hL, hX⟩ := id X
  replace hf : (f_M_feed_3 K K 0 l1 l2 l3 l4 l5 F B) = some (r, F9, B9) := hf
  refine lv_iconst (v := iI 0) hx hb (D_3 W_prog_15_method_12_code_0 0 rfl rfl) rfl ?_
  refine lv_istore (lv' := [(6, .int (iI 0)), (0, .ref (ad 14 0 0)), (1, .int (iI l1)), (2, .int (iI l2)), (3, .int (iI l3)), (4, .int (iI l4)), (5, .int (iI l5))]) hx hb (D_54 W_prog_15_method_12_code_0 1 rfl rfl) hl (by decide) rfl (fun ls hl => ?_)
  exact b_M_feed_3 X hf hZ hS (lv_sub hl [0, 1, 2, 3, 4, 5, 6] rfl)

abbrev Q_M_end (D : va_G) (ca : Nat → ClassId) (ad : Nat → Int → Nat → Nat) (L : List Nat) (r : Int) (F : zF) (B : zB) (A : Nat → Prop) : Array Value → State → Outcome → State → Prop := va_Qi (S := Unit) (fun p _ => p = iI r) (fun _ => zPo D ca ad lnM nM L F B A) A
def f_M_end_26 (K : Nat) : Nat → Int → Int → zF → zB → zO
  | 0, _, _, _, _ => none
  | n + 1, l2, l1, F, B => if r32 l2 then if r32 l1 then (if l1 ≤ l2 then some ((F 14 0 3) + l1, (zup3 F 14 0 3 ((F 14 0 3) + l1)), B) else if 0 ≤ l2 ∧ l2 < 20 then if 0 ≤ ((F 14 0 3) + l2) ∧ ((F 14 0 3) + l2) < 3000 then f_M_end_26 K n (l2 + 1) l1 F (zup4 B 14 0 2 ((F 14 0 3) + l2) (zi2b (B 14 0 4 l2))) else none else none) else none else none
set_option maxHeartbeats 4000000 in
set_option maxRecDepth 100000 in
theorem b_M_end_26 {D : va_G} {ca : Nat → ClassId} {ad : Nat → Int → Nat → Nat} {L : List Nat} {aS vS : Nat → Nat} {A : Nat → Prop} {p : Program} {l : Launch} {e : Env} {s : State} {m : MethodId} {args : Array Value} {below : List Frame} {meth : Method} {c : Code} {K : Nat} {r : Int} {F9 : zF} {B9 : zB} (X : zX D ca L aS vS A p s m args meth c prog_15_method_13_code 3 (Option.some Jvm.ClassFile.FieldType.int) "StaveHouseModel") : ∀ {n : Nat} {l2 : Int} {l1 : Int} {F : zF} {B : zB} {H : Heap} {locs : List Loc} {ls : Array Slot}, f_M_end_26 K n l2 l1 F B = some (r, F9, B9) → zH D ca ad lnM nM L F B A H → va_S A s.heap H locs → lv_has ls 3 [(2, .int (iI l2)), (0, .ref (ad 14 0 0)), (1, .int (iI l1))] → W p l e ({ frames := 0, cells := 0, slots := 0, locals := 0 } : Room) s m args below meth c H locs 0 0 (MQ below (Q_M_end D ca ad L r F9 B9 A) args s 0 0 A) (F0 m 26 ls []) := by
  obtain ⟨hx, hb, hr, hml, hown, hts, hlk, hK, hA, hL, hX⟩ := id X
  intro n
  induction n with
  | zero =>
    intros
    rename_i hf _ _ _
    cases hf
  | succ n ih =>
    intro l2 l1 F B H locs ls hf hZ hS hl
    replace hf : (if r32 l2 then if r32 l1 then (if l1 ≤ l2 then some ((F 14 0 3) + l1, (zup3 F 14 0 3 ((F 14 0 3) + l1)), B) else if 0 ≤ l2 ∧ l2 < 20 then if 0 ≤ ((F 14 0 3) + l2) ∧ ((F 14 0 3) + l2) < 3000 then f_M_end_26 K n (l2 + 1) l1 F (zup4 B 14 0 2 ((F 14 0 3) + l2) (zi2b (B 14 0 4 l2))) else none else none) else none else none) = some (r, F9, B9) := hf
    refine lv_iload_n hx hb (D_28 W_prog_15_method_13_code_0 26 rfl rfl) rfl (lv_at hl 0 rfl) ?_
    refine lv_iload_n hx hb (D_27 W_prog_15_method_13_code_0 27 rfl rfl) rfl (lv_at hl 2 rfl) ?_
    obtain ⟨g6, hf⟩ := gif hf
    obtain ⟨g7, hf⟩ := gif hf
    refine zge (tgt := 54) hx hb g6 g7 (D_162 W_prog_15_method_13_code_0 28 rfl rfl rfl) (by decide) (fun h8 => ?_) (fun h8 => ?_)
    · replace hf := gpos hf h8
      refine lv_aload_n hx hb (D_42 W_prog_15_method_13_code_32 22 rfl rfl) rfl (lv_at hl 1 rfl) ?_
      refine lv_dup hx hb (D_89 W_prog_15_method_13_code_32 23 rfl rfl) rfl ?_
      refine zget (ci := 14) (C := RX14) (T := TX14) (v := .int (iI (F 14 0 3))) (k := 3) hx hb hts inW_14 hown hK hZ (by decide) (by decide) rfl (by decide) k_11_1 rfl (D_180 W_prog_15_method_13_code_32 24 rfl rfl rfl) ?_
      refine lv_iload_n hx hb (D_27 W_prog_15_method_13_code_32 27 rfl rfl) rfl (lv_at hl 2 rfl) ?_
      refine zadd hx hb (D_96 W_prog_15_method_13_code_32 28 rfl rfl) ?_
      refine zput (ci := 14) (C := RX14) (T := TX14) (k := 3) (v := ((F 14 0 3) + l1)) (w := .int (iI ((F 14 0 3) + l1))) hx hb hts inW_14 tyX14 tyX14_ok nmX14 hown hK hZ hS (by decide) (by decide) rfl (by decide) k_11_1 rfl (fun G h => congrArg (fun q => Value.int (iI q)) h) rfl rfl (zno (by decide)) (D_181 W_prog_15_method_13_code_32 29 rfl rfl rfl) (fun H9 locs9 hZ9 hS9 => ?_)
      refine lv_aload_n hx hb (D_42 W_prog_15_method_13_code_64 0 rfl rfl) rfl (lv_at hl 1 rfl) ?_
      refine zget (ci := 14) (C := RX14) (T := TX14) (v := .int (iI ((F 14 0 3) + l1))) (k := 3) hx hb hts inW_14 hown hK hZ9 (by decide) (by decide) rfl (by decide) k_11_1 rfl (D_180 W_prog_15_method_13_code_64 1 rfl rfl rfl) ?_
      cases hf
      exact W.iret hx hb hr (fun t ht hW => ⟨⟨_, (), rfl, rfl, by rw [ht]; exact hZ9, va_K.moved hW.alike hK⟩, hS9.F ht⟩) hS9.2.2 (D_172 W_prog_15_method_13_code_64 4 rfl rfl) hlk
    · replace hf := gneg hf h8
      refine lv_aload_n hx hb (D_42 W_prog_15_method_13_code_0 31 rfl rfl) rfl (lv_at hl 1 rfl) ?_
      refine zget (ci := 14) (C := RX14) (T := TX14) (v := .ref (ad 14 0 (2 + 1))) (k := 2) hx hb hts inW_14 hown hK hZ (by decide) (by decide) rfl (by decide) k_11_0 rfl (D_180 W_prog_15_method_13_code_32 0 rfl rfl rfl) ?_
      refine lv_aload_n hx hb (D_42 W_prog_15_method_13_code_32 3 rfl rfl) rfl (lv_at hl 1 rfl) ?_
      refine zget (ci := 14) (C := RX14) (T := TX14) (v := .int (iI (F 14 0 3))) (k := 3) hx hb hts inW_14 hown hK hZ (by decide) (by decide) rfl (by decide) k_11_1 rfl (D_180 W_prog_15_method_13_code_32 4 rfl rfl rfl) ?_
      refine lv_iload_n hx hb (D_28 W_prog_15_method_13_code_32 7 rfl rfl) rfl (lv_at hl 0 rfl) ?_
      refine zadd hx hb (D_96 W_prog_15_method_13_code_32 8 rfl rfl) ?_
      refine lv_aload_n hx hb (D_42 W_prog_15_method_13_code_32 9 rfl rfl) rfl (lv_at hl 1 rfl) ?_
      refine zget (ci := 14) (C := RX14) (T := TX14) (v := .ref (ad 14 0 (4 + 1))) (k := 4) hx hb hts inW_14 hown hK hZ (by decide) (by decide) rfl (by decide) k_11_2 rfl (D_180 W_prog_15_method_13_code_32 10 rfl rfl rfl) ?_
      refine lv_iload_n hx hb (D_28 W_prog_15_method_13_code_32 13 rfl rfl) rfl (lv_at hl 0 rfl) ?_
      obtain ⟨g10, hf⟩ := gif hf
      refine zbald (ci := 14) (k := 4) hx hb hK rfl hZ (by decide) (by decide) rfl (Nat.le_of_ble_eq_true rfl) g10.1 g10.2 (D_51 W_prog_15_method_13_code_32 14 rfl rfl) ?_
      obtain ⟨g11, hf⟩ := gif hf
      refine zbast (ci := 14) (k := 2) hx hb hK rfl hZ hS (by decide) (by decide) rfl (Nat.le_of_ble_eq_true rfl) g11.1 g11.2 (D_84 W_prog_15_method_13_code_32 15 rfl rfl) (fun H12 locs12 hZ12 hS12 => ?_)
      refine lv_iinc (v := iI (l2 + 1)) (lv' := [(2, .int (iI (l2 + 1))), (0, .ref (ad 14 0 0)), (1, .int (iI l1))]) hx hb d_15_13_48 hl (k := 0) rfl (iI_add _ 1) (by decide) rfl (fun ls hl => ?_)
      refine lv_goto (tgt := 26) hx hb (D_167 W_prog_15_method_13_code_32 19 rfl rfl rfl) (by decide) ?_
      exact ih hf hZ12 hS12 (lv_sub hl [0, 1, 2] rfl)

def f_M_end_22 (K : Nat)  (F : zF) (B : zB) : zO := some ((-1), F, B)
set_option maxHeartbeats 4000000 in
set_option maxRecDepth 100000 in
theorem b_M_end_22 {D : va_G} {ca : Nat → ClassId} {ad : Nat → Int → Nat → Nat} {L : List Nat} {aS vS : Nat → Nat} {A : Nat → Prop} {p : Program} {l : Launch} {e : Env} {s : State} {m : MethodId} {args : Array Value} {below : List Frame} {meth : Method} {c : Code} {K : Nat} {r : Int} {F9 : zF} {B9 : zB} (X : zX D ca L aS vS A p s m args meth c prog_15_method_13_code 3 (Option.some Jvm.ClassFile.FieldType.int) "StaveHouseModel")  {F : zF} {B : zB} {H : Heap} {locs : List Loc} {ls : Array Slot} (hf : f_M_end_22 K  F B = some (r, F9, B9)) (hZ : zH D ca ad lnM nM L F B A H) (hS : va_S A s.heap H locs) (hl : lv_has ls 3 []) : W p l e ({ frames := 0, cells := 0, slots := 0, locals := 0 } : Room) s m args below meth c H locs 0 0 (MQ below (Q_M_end D ca ad L r F9 B9 A) args s 0 0 A) (F0 m 22 ls []) := by
  obtain ⟨hx, hb, hr, hml, hown, hts, hlk, hK, hA, hL, hX⟩ := id X
  replace hf : (some ((-1), F, B)) = some (r, F9, B9) := hf
  refine lv_iconst (v := iI (-1)) hx hb (D_2 W_prog_15_method_13_code_0 22 rfl rfl) rfl ?_
  cases hf
  exact W.iret hx hb hr (fun t ht hW => ⟨⟨_, (), rfl, rfl, by rw [ht]; exact hZ, va_K.moved hW.alike hK⟩, hS.F ht⟩) hS.2.2 (D_172 W_prog_15_method_13_code_0 23 rfl rfl) hlk

def f_M_end (K : Nat) (l1 : Int) (F : zF) (B : zB) : zO := if r32 l1 then (if l1 < 0 then f_M_end_22 K F B else (if 20 < l1 then f_M_end_22 K F B else if r32 ((F 14 0 3) + l1) then (if ((F 14 0 3) + l1) ≤ 3000 then f_M_end_26 K K 0 l1 F B else f_M_end_22 K F B) else none)) else none
set_option maxHeartbeats 4000000 in
set_option maxRecDepth 100000 in
theorem c_M_end {l : Launch} {D : va_G} {ca : Nat → ClassId} {ad : Nat → Int → Nat → Nat} {L : List Nat} {aS vS : Nat → Nat} {sz K : Nat}  {l1 : Int} {F F9 : zF} {B B9 : zB} {r : Int} (hf : f_M_end K l1 F B = some (r, F9, B9)) : Met l ({ cls := "StaveHouseModel", name := "end", desc := "(I)I" } : Jvm.MethodName) (Cond.code ({ cls := "StaveHouseModel", name := "end", desc := "(I)I" } : Jvm.MethodName) prog_15_method_13_code 3 (Option.some Jvm.ClassFile.FieldType.int) :: wAll) ({ frames := 0, cells := 0, slots := 0, locals := 0 } : Room) (va_Pc [.ref (ad 14 0 0), .int (iI l1)] (zPre D ca ad lnM nM L aS vS F B sz)) (Q_M_end D ca ad L r F9 B9 (zA L sz)) 0 0 (zA L sz) := by
  refine zMet (Qc := Q_M_end D ca ad L r F9 B9) (lv := [(0, .ref (ad 14 0 0)), (1, .int (iI l1))]) (by decide) (Nat.le_of_ble_eq_true rfl) rfl (fun A p e s m below meth c ls X hZ hS hl => ?_)
  obtain ⟨hx, hb, hr, hml, hown, hts, hlk, hK, hA, hL, hX⟩ := id X
  replace hf : (if r32 l1 then (if l1 < 0 then f_M_end_22 K F B else (if 20 < l1 then f_M_end_22 K F B else if r32 ((F 14 0 3) + l1) then (if ((F 14 0 3) + l1) ≤ 3000 then f_M_end_26 K K 0 l1 F B else f_M_end_22 K F B) else none)) else none) = some (r, F9, B9) := hf
  refine lv_iload_n hx hb (D_27 W_prog_15_method_13_code_0 0 rfl rfl) rfl (lv_at hl 1 rfl) ?_
  obtain ⟨g1, hf⟩ := gif hf
  refine z0lt (tgt := 22) hx hb g1 (D_155 W_prog_15_method_13_code_0 1 rfl rfl rfl) (by decide) (fun h2 => ?_) (fun h2 => ?_)
  · replace hf := gpos hf h2
    exact b_M_end_22 X hf hZ hS (lv_sub hl [] rfl)
  · replace hf := gneg hf h2
    refine lv_iload_n hx hb (D_27 W_prog_15_method_13_code_0 4 rfl rfl) rfl (lv_at hl 1 rfl) ?_
    refine lv_bipush (v := iI 20) hx hb (D_16 W_prog_15_method_13_code_0 5 rfl rfl rfl) (by decide) ?_
    refine zgt (tgt := 22) hx hb g1 (by decide) (D_163 W_prog_15_method_13_code_0 7 rfl rfl rfl) (by decide) (fun h3 => ?_) (fun h3 => ?_)
    · replace hf := gpos hf h3
      exact b_M_end_22 X hf hZ hS (lv_sub hl [] rfl)
    · replace hf := gneg hf h3
      refine lv_aload_n hx hb (D_42 W_prog_15_method_13_code_0 10 rfl rfl) rfl (lv_at hl 0 rfl) ?_
      refine zget (ci := 14) (C := RX14) (T := TX14) (v := .int (iI (F 14 0 3))) (k := 3) hx hb hts inW_14 hown hK hZ (by decide) (by decide) rfl (by decide) k_11_1 rfl (D_180 W_prog_15_method_13_code_0 11 rfl rfl rfl) ?_
      refine lv_iload_n hx hb (D_27 W_prog_15_method_13_code_0 14 rfl rfl) rfl (lv_at hl 1 rfl) ?_
      refine zadd hx hb (D_96 W_prog_15_method_13_code_0 15 rfl rfl) ?_
      refine lv_sipush (v := iI 3000) hx hb (D_17 W_prog_15_method_13_code_0 16 rfl rfl rfl) (by decide) ?_
      obtain ⟨g4, hf⟩ := gif hf
      refine zle (tgt := 24) hx hb g4 (by decide) (D_164 W_prog_15_method_13_code_0 19 rfl rfl rfl) (by decide) (fun h5 => ?_) (fun h5 => ?_)
      · replace hf := gpos hf h5
        refine lv_iconst (v := iI 0) hx hb (D_3 W_prog_15_method_13_code_0 24 rfl rfl) rfl ?_
        refine lv_istore_n (lv' := [(2, .int (iI 0)), (0, .ref (ad 14 0 0)), (1, .int (iI l1))]) hx hb (D_61 W_prog_15_method_13_code_0 25 rfl rfl) rfl hl (by decide) rfl (fun ls hl => ?_)
        exact b_M_end_26 X hf hZ hS (lv_sub hl [0, 1, 2] rfl)
      · replace hf := gneg hf h5
        exact b_M_end_22 X hf hZ hS (lv_sub hl [] rfl)

abbrev Q_M_piece (D : va_G) (ca : Nat → ClassId) (ad : Nat → Int → Nat → Nat) (L : List Nat) (r : Int) (F : zF) (B : zB) (A : Nat → Prop) : Array Value → State → Outcome → State → Prop := va_Qq (S := Unit) (fun p _ => p = zrf ad 13 r) (fun _ => zPo D ca ad lnM nM L F B A) A
def f_M_piece_31 (K : Nat) (s0 : Int) (F : zF) (B : zB) : zO := some (s0, F, B)
set_option maxHeartbeats 4000000 in
set_option maxRecDepth 100000 in
theorem b_M_piece_31 {D : va_G} {ca : Nat → ClassId} {ad : Nat → Int → Nat → Nat} {L : List Nat} {aS vS : Nat → Nat} {A : Nat → Prop} {p : Program} {l : Launch} {e : Env} {s : State} {m : MethodId} {args : Array Value} {below : List Frame} {meth : Method} {c : Code} {K : Nat} {r : Int} {F9 : zF} {B9 : zB} (X : zX D ca L aS vS A p s m args meth c prog_15_method_15_code 2 (Option.some (Jvm.ClassFile.FieldType.object "StaveHouseModel$Piece")) "StaveHouseModel") {s0 : Int} {F : zF} {B : zB} {H : Heap} {locs : List Loc} {ls : Array Slot} (hf : f_M_piece_31 K s0 F B = some (r, F9, B9)) (hZ : zH D ca ad lnM nM L F B A H) (hS : va_S A s.heap H locs) (hl : lv_has ls 2 []) : W p l e ({ frames := 0, cells := 0, slots := 0, locals := 0 } : Room) s m args below meth c H locs 0 0 (MQ below (Q_M_piece D ca ad L r F9 B9 A) args s 0 0 A) (F0 m 31 ls [va_rf (zrf ad 13 s0)]) := by
  obtain ⟨hx, hb, hr, hml, hown, hts, hlk, hK, hA, hL, hX⟩ := id X
  replace hf : (some (s0, F, B)) = some (r, F9, B9) := hf
  cases hf
  exact W.aret hx hb hr (Or.inl ⟨_, rfl⟩) (va_rf_or _) (fun t ht hW => ⟨⟨_, (), rfl, rfl, by rw [ht]; exact hZ, va_K.moved hW.alike hK⟩, hS.F ht⟩) hS.2.2 (D_176 W_prog_15_method_15_code_0 31 rfl rfl) hlk

def f_M_piece_30 (K : Nat)  (F : zF) (B : zB) : zO := f_M_piece_31 K (-1) F B
set_option maxHeartbeats 4000000 in
set_option maxRecDepth 100000 in
theorem b_M_piece_30 {D : va_G} {ca : Nat → ClassId} {ad : Nat → Int → Nat → Nat} {L : List Nat} {aS vS : Nat → Nat} {A : Nat → Prop} {p : Program} {l : Launch} {e : Env} {s : State} {m : MethodId} {args : Array Value} {below : List Frame} {meth : Method} {c : Code} {K : Nat} {r : Int} {F9 : zF} {B9 : zB} (X : zX D ca L aS vS A p s m args meth c prog_15_method_15_code 2 (Option.some (Jvm.ClassFile.FieldType.object "StaveHouseModel$Piece")) "StaveHouseModel")  {F : zF} {B : zB} {H : Heap} {locs : List Loc} {ls : Array Slot} (hf : f_M_piece_30 K  F B = some (r, F9, B9)) (hZ : zH D ca ad lnM nM L F B A H) (hS : va_S A s.heap H locs) (hl : lv_has ls 2 []) : W p l e ({ frames := 0, cells := 0, slots := 0, locals := 0 } : Room) s m args below meth c H locs 0 0 (MQ below (Q_M_piece D ca ad L r F9 B9 A) args s 0 0 A) (F0 m 30 ls []) := by
  obtain ⟨hx, hb, hr, hml, hown, hts, hlk, hK, hA, hL, hX⟩ := id X
  replace hf : (f_M_piece_31 K (-1) F B) = some (r, F9, B9) := hf
  refine lv_null hx hb (D_1 W_prog_15_method_15_code_0 30 rfl rfl) ?_
  refine W.eq (g2 := F0 m 31 ls [va_rf (zrf ad 13 (-1))]) rfl ?_
  exact b_M_piece_31 X hf hZ hS (lv_sub hl [] rfl)

def f_M_piece (K : Nat) (l1 : Int) (F : zF) (B : zB) : zO := if r32 l1 then (if l1 < 0 then f_M_piece_30 K F B else (if 2 ≤ l1 then f_M_piece_30 K F B else if 0 ≤ l1 ∧ l1 < 2 then if 0 ≤ (B 14 0 5 l1) ∧ (B 14 0 5 l1) < 3 then if r32 (F 13 (B 14 0 5 l1) 0) then (if (F 13 (B 14 0 5 l1) 0) = 0 then f_M_piece_30 K F B else f_M_piece_31 K (B 14 0 5 l1) F B) else none else none else none)) else none
set_option maxHeartbeats 4000000 in
set_option maxRecDepth 100000 in
theorem c_M_piece {l : Launch} {D : va_G} {ca : Nat → ClassId} {ad : Nat → Int → Nat → Nat} {L : List Nat} {aS vS : Nat → Nat} {sz K : Nat}  {l1 : Int} {F F9 : zF} {B B9 : zB} {r : Int} (hf : f_M_piece K l1 F B = some (r, F9, B9)) : Met l ({ cls := "StaveHouseModel", name := "piece", desc := "(I)LStaveHouseModel$Piece;" } : Jvm.MethodName) (Cond.code ({ cls := "StaveHouseModel", name := "piece", desc := "(I)LStaveHouseModel$Piece;" } : Jvm.MethodName) prog_15_method_15_code 2 (Option.some (Jvm.ClassFile.FieldType.object "StaveHouseModel$Piece")) :: wAll) ({ frames := 0, cells := 0, slots := 0, locals := 0 } : Room) (va_Pc [.ref (ad 14 0 0), .int (iI l1)] (zPre D ca ad lnM nM L aS vS F B sz)) (Q_M_piece D ca ad L r F9 B9 (zA L sz)) 0 0 (zA L sz) := by
  refine zMet (Qc := Q_M_piece D ca ad L r F9 B9) (lv := [(0, .ref (ad 14 0 0)), (1, .int (iI l1))]) (by decide) (Nat.le_of_ble_eq_true rfl) rfl (fun A p e s m below meth c ls X hZ hS hl => ?_)
  obtain ⟨hx, hb, hr, hml, hown, hts, hlk, hK, hA, hL, hX⟩ := id X
  replace hf : (if r32 l1 then (if l1 < 0 then f_M_piece_30 K F B else (if 2 ≤ l1 then f_M_piece_30 K F B else if 0 ≤ l1 ∧ l1 < 2 then if 0 ≤ (B 14 0 5 l1) ∧ (B 14 0 5 l1) < 3 then if r32 (F 13 (B 14 0 5 l1) 0) then (if (F 13 (B 14 0 5 l1) 0) = 0 then f_M_piece_30 K F B else f_M_piece_31 K (B 14 0 5 l1) F B) else none else none else none)) else none) = some (r, F9, B9) := hf
  refine lv_iload_n hx hb (D_27 W_prog_15_method_15_code_0 0 rfl rfl) rfl (lv_at hl 1 rfl) ?_
  obtain ⟨g1, hf⟩ := gif hf
  refine z0lt (tgt := 30) hx hb g1 (D_155 W_prog_15_method_15_code_0 1 rfl rfl rfl) (by decide) (fun h2 => ?_) (fun h2 => ?_)
  · replace hf := gpos hf h2
    exact b_M_piece_30 X hf hZ hS (lv_sub hl [] rfl)
  · replace hf := gneg hf h2
    refine lv_iload_n hx hb (D_27 W_prog_15_method_15_code_0 4 rfl rfl) rfl (lv_at hl 1 rfl) ?_
    refine lv_iconst (v := iI 2) hx hb (D_5 W_prog_15_method_15_code_0 5 rfl rfl) rfl ?_
    refine zge (tgt := 30) hx hb g1 (by decide) (D_162 W_prog_15_method_15_code_0 6 rfl rfl rfl) (by decide) (fun h3 => ?_) (fun h3 => ?_)
    · replace hf := gpos hf h3
      exact b_M_piece_30 X hf hZ hS (lv_sub hl [] rfl)
    · replace hf := gneg hf h3
      refine lv_aload_n hx hb (D_42 W_prog_15_method_15_code_0 9 rfl rfl) rfl (lv_at hl 0 rfl) ?_
      refine zget (ci := 14) (C := RX14) (T := TX14) (v := .ref (ad 14 0 (5 + 1))) (k := 5) hx hb hts inW_14 hown hK hZ (by decide) (by decide) rfl (by decide) k_11_3 rfl (D_180 W_prog_15_method_15_code_0 10 rfl rfl rfl) ?_
      refine lv_iload_n hx hb (D_27 W_prog_15_method_15_code_0 13 rfl rfl) rfl (lv_at hl 1 rfl) ?_
      obtain ⟨g4, hf⟩ := gif hf
      refine zaldR (t := 13) (x := 5) (ci := 14) (k := 5) hx hb hK rfl rfl hZ (by decide) (by decide) rfl (Nat.le_of_ble_eq_true rfl) g4.1 g4.2 (D_50 W_prog_15_method_15_code_0 14 rfl rfl) ?_
      obtain ⟨g5, hf⟩ := gif hf
      refine zunrf g5.1 ?_
      refine zget (ci := 13) (C := RX13) (T := TX13) (v := .int (iI (F 13 (B 14 0 5 l1) 0))) (k := 0) hx hb hts inW_13 hown hK hZ g5.1 g5.2 rfl (by decide) k_9_125 rfl (D_180 W_prog_15_method_15_code_0 15 rfl rfl rfl) ?_
      obtain ⟨g6, hf⟩ := gif hf
      refine z0eq (tgt := 30) hx hb g6 (D_153 W_prog_15_method_15_code_0 18 rfl rfl rfl) (by decide) (fun h7 => ?_) (fun h7 => ?_)
      · replace hf := gpos hf h7
        exact b_M_piece_30 X hf hZ hS (lv_sub hl [] rfl)
      · replace hf := gneg hf h7
        refine lv_aload_n hx hb (D_42 W_prog_15_method_15_code_0 21 rfl rfl) rfl (lv_at hl 0 rfl) ?_
        refine zget (ci := 14) (C := RX14) (T := TX14) (v := .ref (ad 14 0 (5 + 1))) (k := 5) hx hb hts inW_14 hown hK hZ (by decide) (by decide) rfl (by decide) k_11_3 rfl (D_180 W_prog_15_method_15_code_0 22 rfl rfl rfl) ?_
        refine lv_iload_n hx hb (D_27 W_prog_15_method_15_code_0 25 rfl rfl) rfl (lv_at hl 1 rfl) ?_
        refine zaldR (t := 13) (x := 5) (ci := 14) (k := 5) hx hb hK rfl rfl hZ (by decide) (by decide) rfl (Nat.le_of_ble_eq_true rfl) g4.1 g4.2 (D_50 W_prog_15_method_15_code_0 26 rfl rfl) ?_
        refine lv_goto (tgt := 31) hx hb (D_167 W_prog_15_method_15_code_0 27 rfl rfl rfl) (by decide) ?_
        exact b_M_piece_31 X hf hZ hS (lv_sub hl [] rfl)

abbrev Q_M_ahead (D : va_G) (ca : Nat → ClassId) (ad : Nat → Int → Nat → Nat) (L : List Nat) (r : Int) (F : zF) (B : zB) (A : Nat → Prop) : Array Value → State → Outcome → State → Prop := va_Qi (S := Unit) (fun p _ => p = iI r) (fun _ => zPo D ca ad lnM nM L F B A) A
def f_M_ahead_34 (K : Nat) (s0 : Int) (s1 : Int) (F : zF) (B : zB) : zO := some (s0 + s1, F, B)
set_option maxHeartbeats 4000000 in
set_option maxRecDepth 100000 in
theorem b_M_ahead_34 {D : va_G} {ca : Nat → ClassId} {ad : Nat → Int → Nat → Nat} {L : List Nat} {aS vS : Nat → Nat} {A : Nat → Prop} {p : Program} {l : Launch} {e : Env} {s : State} {m : MethodId} {args : Array Value} {below : List Frame} {meth : Method} {c : Code} {K : Nat} {r : Int} {F9 : zF} {B9 : zB} (X : zX D ca L aS vS A p s m args meth c prog_15_method_105_code 2 (Option.some Jvm.ClassFile.FieldType.int) "StaveHouseModel") {s0 : Int} {s1 : Int} {F : zF} {B : zB} {H : Heap} {locs : List Loc} {ls : Array Slot} (hf : f_M_ahead_34 K s0 s1 F B = some (r, F9, B9)) (hZ : zH D ca ad lnM nM L F B A H) (hS : va_S A s.heap H locs) (hl : lv_has ls 2 []) : W p l e ({ frames := 0, cells := 0, slots := 0, locals := 0 } : Room) s m args below meth c H locs 0 0 (MQ below (Q_M_ahead D ca ad L r F9 B9 A) args s 0 0 A) (F0 m 34 ls [.int (iI s1), .int (iI s0)]) := by
  obtain ⟨hx, hb, hr, hml, hown, hts, hlk, hK, hA, hL, hX⟩ := id X
  replace hf : (some (s0 + s1, F, B)) = some (r, F9, B9) := hf
  refine zadd hx hb (D_96 W_prog_15_method_105_code_32 2 rfl rfl) ?_
  cases hf
  exact W.iret hx hb hr (fun t ht hW => ⟨⟨_, (), rfl, rfl, by rw [ht]; exact hZ, va_K.moved hW.alike hK⟩, hS.F ht⟩) hS.2.2 (D_172 W_prog_15_method_105_code_32 3 rfl rfl) hlk

def f_M_ahead_22 (K : Nat) (l1 : Int) (s0 : Int) (s1 : Int) (s2 : Int) (F : zF) (B : zB) : zO := if r32 l1 then (if l1 = 0 then f_M_ahead_34 K (s0 + (s1 * s2)) 12 F B else f_M_ahead_34 K (s0 + (s1 * s2)) 0 F B) else none
set_option maxHeartbeats 4000000 in
set_option maxRecDepth 100000 in
theorem b_M_ahead_22 {D : va_G} {ca : Nat → ClassId} {ad : Nat → Int → Nat → Nat} {L : List Nat} {aS vS : Nat → Nat} {A : Nat → Prop} {p : Program} {l : Launch} {e : Env} {s : State} {m : MethodId} {args : Array Value} {below : List Frame} {meth : Method} {c : Code} {K : Nat} {r : Int} {F9 : zF} {B9 : zB} (X : zX D ca L aS vS A p s m args meth c prog_15_method_105_code 2 (Option.some Jvm.ClassFile.FieldType.int) "StaveHouseModel") {l1 : Int} {s0 : Int} {s1 : Int} {s2 : Int} {F : zF} {B : zB} {H : Heap} {locs : List Loc} {ls : Array Slot} (hf : f_M_ahead_22 K l1 s0 s1 s2 F B = some (r, F9, B9)) (hZ : zH D ca ad lnM nM L F B A H) (hS : va_S A s.heap H locs) (hl : lv_has ls 2 [(1, .int (iI l1))]) : W p l e ({ frames := 0, cells := 0, slots := 0, locals := 0 } : Room) s m args below meth c H locs 0 0 (MQ below (Q_M_ahead D ca ad L r F9 B9 A) args s 0 0 A) (F0 m 22 ls [.int (iI s2), .int (iI s1), .int (iI s0)]) := by
  obtain ⟨hx, hb, hr, hml, hown, hts, hlk, hK, hA, hL, hX⟩ := id X
  replace hf : (if r32 l1 then (if l1 = 0 then f_M_ahead_34 K (s0 + (s1 * s2)) 12 F B else f_M_ahead_34 K (s0 + (s1 * s2)) 0 F B) else none) = some (r, F9, B9) := hf
  refine zmul hx hb (D_104 W_prog_15_method_105_code_0 22 rfl rfl) ?_
  refine zadd hx hb (D_96 W_prog_15_method_105_code_0 23 rfl rfl) ?_
  refine lv_iload_n hx hb (D_27 W_prog_15_method_105_code_0 24 rfl rfl) rfl (lv_at hl 0 rfl) ?_
  obtain ⟨g4, hf⟩ := gif hf
  refine z0ne (tgt := 33) hx hb g4 (D_154 W_prog_15_method_105_code_0 25 rfl rfl rfl) (by decide) (fun h5 => ?_) (fun h5 => ?_)
  · replace hf := gneg hf h5
    refine lv_iconst (v := iI 0) hx hb (D_3 W_prog_15_method_105_code_32 1 rfl rfl) rfl ?_
    exact b_M_ahead_34 X hf hZ hS (lv_sub hl [] rfl)
  · replace hf := gpos hf h5
    refine lv_bipush (v := iI 12) hx hb (D_16 W_prog_15_method_105_code_0 28 rfl rfl rfl) (by decide) ?_
    refine lv_goto (tgt := 34) hx hb (D_167 W_prog_15_method_105_code_0 30 rfl rfl rfl) (by decide) ?_
    exact b_M_ahead_34 X hf hZ hS (lv_sub hl [] rfl)

def f_M_ahead (K : Nat) (l0 : Int) (l1 : Int) (F : zF) (B : zB) : zO := if 0 ≤ l0 ∧ l0 < 3 then if r32 (F 13 l0 2) then (if 0 ≤ (F 13 l0 2) then f_M_ahead_22 K l1 24 5 (F 13 l0 2) F B else f_M_ahead_22 K l1 24 5 (-(F 13 l0 2)) F B) else none else none
set_option maxHeartbeats 4000000 in
set_option maxRecDepth 100000 in
theorem c_M_ahead {l : Launch} {D : va_G} {ca : Nat → ClassId} {ad : Nat → Int → Nat → Nat} {L : List Nat} {aS vS : Nat → Nat} {sz K : Nat}  {l0 : Int} {l1 : Int} {F F9 : zF} {B B9 : zB} {r : Int} (hf : f_M_ahead K l0 l1 F B = some (r, F9, B9)) : Met l ({ cls := "StaveHouseModel", name := "ahead", desc := "(LStaveHouseModel$Piece;I)I" } : Jvm.MethodName) (Cond.code ({ cls := "StaveHouseModel", name := "ahead", desc := "(LStaveHouseModel$Piece;I)I" } : Jvm.MethodName) prog_15_method_105_code 2 (Option.some Jvm.ClassFile.FieldType.int) :: wAll) ({ frames := 0, cells := 0, slots := 0, locals := 0 } : Room) (va_Pc [.ref (ad 13 l0 0), .int (iI l1)] (zPre D ca ad lnM nM L aS vS F B sz)) (Q_M_ahead D ca ad L r F9 B9 (zA L sz)) 0 0 (zA L sz) := by
  refine zMet (Qc := Q_M_ahead D ca ad L r F9 B9) (lv := [(0, .ref (ad 13 l0 0)), (1, .int (iI l1))]) (by decide) (Nat.le_of_ble_eq_true rfl) rfl (fun A p e s m below meth c ls X hZ hS hl => ?_)
  obtain ⟨hx, hb, hr, hml, hown, hts, hlk, hK, hA, hL, hX⟩ := id X
  replace hf : (if 0 ≤ l0 ∧ l0 < 3 then if r32 (F 13 l0 2) then (if 0 ≤ (F 13 l0 2) then f_M_ahead_22 K l1 24 5 (F 13 l0 2) F B else f_M_ahead_22 K l1 24 5 (-(F 13 l0 2)) F B) else none else none) = some (r, F9, B9) := hf
  refine lv_bipush (v := iI 24) hx hb (D_16 W_prog_15_method_105_code_0 0 rfl rfl rfl) (by decide) ?_
  refine lv_iconst (v := iI 5) hx hb (D_8 W_prog_15_method_105_code_0 2 rfl rfl) rfl ?_
  refine lv_aload_n hx hb (D_42 W_prog_15_method_105_code_0 3 rfl rfl) rfl (lv_at hl 0 rfl) ?_
  obtain ⟨g1, hf⟩ := gif hf
  refine zget (ci := 13) (C := RX13) (T := TX13) (v := .int (iI (F 13 l0 2))) (k := 2) hx hb hts inW_13 hown hK hZ g1.1 g1.2 rfl (by decide) k_9_127 rfl (D_180 W_prog_15_method_105_code_0 4 rfl rfl rfl) ?_
  obtain ⟨g2, hf⟩ := gif hf
  refine z0ge (tgt := 18) hx hb g2 (D_156 W_prog_15_method_105_code_0 7 rfl rfl rfl) (by decide) (fun h3 => ?_) (fun h3 => ?_)
  · replace hf := gpos hf h3
    refine lv_aload_n hx hb (D_42 W_prog_15_method_105_code_0 18 rfl rfl) rfl (lv_at hl 0 rfl) ?_
    refine zget (ci := 13) (C := RX13) (T := TX13) (v := .int (iI (F 13 l0 2))) (k := 2) hx hb hts inW_13 hown hK hZ g1.1 g1.2 rfl (by decide) k_9_127 rfl (D_180 W_prog_15_method_105_code_0 19 rfl rfl rfl) ?_
    exact b_M_ahead_22 X hf hZ hS (lv_sub hl [1] rfl)
  · replace hf := gneg hf h3
    refine lv_aload_n hx hb (D_42 W_prog_15_method_105_code_0 10 rfl rfl) rfl (lv_at hl 0 rfl) ?_
    refine zget (ci := 13) (C := RX13) (T := TX13) (v := .int (iI (F 13 l0 2))) (k := 2) hx hb hts inW_13 hown hK hZ g1.1 g1.2 rfl (by decide) k_9_127 rfl (D_180 W_prog_15_method_105_code_0 11 rfl rfl rfl) ?_
    refine zneg hx hb (D_116 W_prog_15_method_105_code_0 14 rfl rfl) ?_
    refine lv_goto (tgt := 22) hx hb (D_167 W_prog_15_method_105_code_0 15 rfl rfl rfl) (by decide) ?_
    exact b_M_ahead_22 X hf hZ hS (lv_sub hl [1] rfl)

abbrev Q_M_lineColumns (D : va_G) (ca : Nat → ClassId) (ad : Nat → Int → Nat → Nat) (L : List Nat) (r : Int) (F : zF) (B : zB) (A : Nat → Prop) : Array Value → State → Outcome → State → Prop := va_Qi (S := Unit) (fun p _ => p = iI r) (fun _ => zPo D ca ad lnM nM L F B A) A
def f_M_lineColumns (K : Nat) (l0 : Int) (l1 : Int) (F : zF) (B : zB) : zO := if 0 ≤ l0 ∧ l0 < 3 then if 0 ≤ l1 ∧ l1 < 100 then if 0 ≤ ((B 13 l0 49 l1) + (B 13 l0 50 l1)) ∧ ((B 13 l0 49 l1) + (B 13 l0 50 l1)) < 101 then if 0 ≤ (B 13 l0 49 l1) ∧ (B 13 l0 49 l1) < 101 then some ((B 13 l0 42 ((B 13 l0 49 l1) + (B 13 l0 50 l1))) - (B 13 l0 42 (B 13 l0 49 l1)), F, B) else none else none else none else none
set_option maxHeartbeats 4000000 in
set_option maxRecDepth 100000 in
theorem c_M_lineColumns {l : Launch} {D : va_G} {ca : Nat → ClassId} {ad : Nat → Int → Nat → Nat} {L : List Nat} {aS vS : Nat → Nat} {sz K : Nat}  {l0 : Int} {l1 : Int} {F F9 : zF} {B B9 : zB} {r : Int} (hf : f_M_lineColumns K l0 l1 F B = some (r, F9, B9)) : Met l ({ cls := "StaveHouseModel", name := "lineColumns", desc := "(LStaveHouseModel$Piece;I)I" } : Jvm.MethodName) (Cond.code ({ cls := "StaveHouseModel", name := "lineColumns", desc := "(LStaveHouseModel$Piece;I)I" } : Jvm.MethodName) prog_15_method_109_code 2 (Option.some Jvm.ClassFile.FieldType.int) :: wAll) ({ frames := 0, cells := 0, slots := 0, locals := 0 } : Room) (va_Pc [.ref (ad 13 l0 0), .int (iI l1)] (zPre D ca ad lnM nM L aS vS F B sz)) (Q_M_lineColumns D ca ad L r F9 B9 (zA L sz)) 0 0 (zA L sz) := by
  refine zMet (Qc := Q_M_lineColumns D ca ad L r F9 B9) (lv := [(0, .ref (ad 13 l0 0)), (1, .int (iI l1))]) (by decide) (Nat.le_of_ble_eq_true rfl) rfl (fun A p e s m below meth c ls X hZ hS hl => ?_)
  obtain ⟨hx, hb, hr, hml, hown, hts, hlk, hK, hA, hL, hX⟩ := id X
  replace hf : (if 0 ≤ l0 ∧ l0 < 3 then if 0 ≤ l1 ∧ l1 < 100 then if 0 ≤ ((B 13 l0 49 l1) + (B 13 l0 50 l1)) ∧ ((B 13 l0 49 l1) + (B 13 l0 50 l1)) < 101 then if 0 ≤ (B 13 l0 49 l1) ∧ (B 13 l0 49 l1) < 101 then some ((B 13 l0 42 ((B 13 l0 49 l1) + (B 13 l0 50 l1))) - (B 13 l0 42 (B 13 l0 49 l1)), F, B) else none else none else none else none) = some (r, F9, B9) := hf
  refine lv_aload_n hx hb (D_42 W_prog_15_method_109_code_0 0 rfl rfl) rfl (lv_at hl 0 rfl) ?_
  obtain ⟨g1, hf⟩ := gif hf
  refine zget (ci := 13) (C := RX13) (T := TX13) (v := .ref (ad 13 l0 (42 + 1))) (k := 42) hx hb hts inW_13 hown hK hZ g1.1 g1.2 rfl (by decide) k_9_202 rfl (D_180 W_prog_15_method_109_code_0 1 rfl rfl rfl) ?_
  refine lv_aload_n hx hb (D_42 W_prog_15_method_109_code_0 4 rfl rfl) rfl (lv_at hl 0 rfl) ?_
  refine zget (ci := 13) (C := RX13) (T := TX13) (v := .ref (ad 13 l0 (49 + 1))) (k := 49) hx hb hts inW_13 hown hK hZ g1.1 g1.2 rfl (by decide) k_9_214 rfl (D_180 W_prog_15_method_109_code_0 5 rfl rfl rfl) ?_
  refine lv_iload_n hx hb (D_27 W_prog_15_method_109_code_0 8 rfl rfl) rfl (lv_at hl 1 rfl) ?_
  obtain ⟨g2, hf⟩ := gif hf
  refine zald (ci := 13) (k := 49) hx hb hK rfl hZ g1.1 g1.2 rfl (Nat.le_of_ble_eq_true rfl) g2.1 g2.2 (D_46 W_prog_15_method_109_code_0 9 rfl rfl) ?_
  refine lv_aload_n hx hb (D_42 W_prog_15_method_109_code_0 10 rfl rfl) rfl (lv_at hl 0 rfl) ?_
  refine zget (ci := 13) (C := RX13) (T := TX13) (v := .ref (ad 13 l0 (50 + 1))) (k := 50) hx hb hts inW_13 hown hK hZ g1.1 g1.2 rfl (by decide) k_9_216 rfl (D_180 W_prog_15_method_109_code_0 11 rfl rfl rfl) ?_
  refine lv_iload_n hx hb (D_27 W_prog_15_method_109_code_0 14 rfl rfl) rfl (lv_at hl 1 rfl) ?_
  refine zald (ci := 13) (k := 50) hx hb hK rfl hZ g1.1 g1.2 rfl (Nat.le_of_ble_eq_true rfl) g2.1 g2.2 (D_46 W_prog_15_method_109_code_0 15 rfl rfl) ?_
  refine zadd hx hb (D_96 W_prog_15_method_109_code_0 16 rfl rfl) ?_
  obtain ⟨g3, hf⟩ := gif hf
  refine zald (ci := 13) (k := 42) hx hb hK rfl hZ g1.1 g1.2 rfl (Nat.le_of_ble_eq_true rfl) g3.1 g3.2 (D_46 W_prog_15_method_109_code_0 17 rfl rfl) ?_
  refine lv_aload_n hx hb (D_42 W_prog_15_method_109_code_0 18 rfl rfl) rfl (lv_at hl 0 rfl) ?_
  refine zget (ci := 13) (C := RX13) (T := TX13) (v := .ref (ad 13 l0 (42 + 1))) (k := 42) hx hb hts inW_13 hown hK hZ g1.1 g1.2 rfl (by decide) k_9_202 rfl (D_180 W_prog_15_method_109_code_0 19 rfl rfl rfl) ?_
  refine lv_aload_n hx hb (D_42 W_prog_15_method_109_code_0 22 rfl rfl) rfl (lv_at hl 0 rfl) ?_
  refine zget (ci := 13) (C := RX13) (T := TX13) (v := .ref (ad 13 l0 (49 + 1))) (k := 49) hx hb hts inW_13 hown hK hZ g1.1 g1.2 rfl (by decide) k_9_214 rfl (D_180 W_prog_15_method_109_code_0 23 rfl rfl rfl) ?_
  refine lv_iload_n hx hb (D_27 W_prog_15_method_109_code_0 26 rfl rfl) rfl (lv_at hl 1 rfl) ?_
  refine zald (ci := 13) (k := 49) hx hb hK rfl hZ g1.1 g1.2 rfl (Nat.le_of_ble_eq_true rfl) g2.1 g2.2 (D_46 W_prog_15_method_109_code_0 27 rfl rfl) ?_
  obtain ⟨g4, hf⟩ := gif hf
  refine zald (ci := 13) (k := 42) hx hb hK rfl hZ g1.1 g1.2 rfl (Nat.le_of_ble_eq_true rfl) g4.1 g4.2 (D_46 W_prog_15_method_109_code_0 28 rfl rfl) ?_
  refine zsub hx hb (D_100 W_prog_15_method_109_code_0 29 rfl rfl) ?_
  cases hf
  exact W.iret hx hb hr (fun t ht hW => ⟨⟨_, (), rfl, rfl, by rw [ht]; exact hZ, va_K.moved hW.alike hK⟩, hS.F ht⟩) hS.2.2 (D_172 W_prog_15_method_109_code_0 30 rfl rfl) hlk

abbrev Q_M_isVoice (D : va_G) (ca : Nat → ClassId) (ad : Nat → Int → Nat → Nat) (L : List Nat) (r : Int) (F : zF) (B : zB) (A : Nat → Prop) : Array Value → State → Outcome → State → Prop := va_Qi (S := Unit) (fun p _ => p = iI r) (fun _ => zPo D ca ad lnM nM L F B A) A
def f_M_isVoice_21 (K : Nat) (s0 : Int) (F : zF) (B : zB) : zO := if (s0 = 0 ∨ s0 = 1) then some (s0, F, B) else none
set_option maxHeartbeats 4000000 in
set_option maxRecDepth 100000 in
theorem b_M_isVoice_21 {D : va_G} {ca : Nat → ClassId} {ad : Nat → Int → Nat → Nat} {L : List Nat} {aS vS : Nat → Nat} {A : Nat → Prop} {p : Program} {l : Launch} {e : Env} {s : State} {m : MethodId} {args : Array Value} {below : List Frame} {meth : Method} {c : Code} {K : Nat} {r : Int} {F9 : zF} {B9 : zB} (X : zX D ca L aS vS A p s m args meth c prog_15_method_16_code 2 (Option.some Jvm.ClassFile.FieldType.boolean) "StaveHouseModel") {s0 : Int} {F : zF} {B : zB} {H : Heap} {locs : List Loc} {ls : Array Slot} (hf : f_M_isVoice_21 K s0 F B = some (r, F9, B9)) (hZ : zH D ca ad lnM nM L F B A H) (hS : va_S A s.heap H locs) (hl : lv_has ls 2 []) : W p l e ({ frames := 0, cells := 0, slots := 0, locals := 0 } : Room) s m args below meth c H locs 0 0 (MQ below (Q_M_isVoice D ca ad L r F9 B9 A) args s 0 0 A) (F0 m 21 ls [.int (iI s0)]) := by
  obtain ⟨hx, hb, hr, hml, hown, hts, hlk, hK, hA, hL, hX⟩ := id X
  replace hf : (if (s0 = 0 ∨ s0 = 1) then some (s0, F, B) else none) = some (r, F9, B9) := hf
  obtain ⟨g7, hf⟩ := gif hf
  cases hf
  exact W.zret hx hb hr (zbool g7) (fun t ht hW => ⟨⟨_, (), rfl, rfl, by rw [ht]; exact hZ, va_K.moved hW.alike hK⟩, hS.F ht⟩) hS.2.2 (D_172 W_prog_15_method_16_code_0 21 rfl rfl) hlk

def f_M_isVoice_20 (K : Nat)  (F : zF) (B : zB) : zO := f_M_isVoice_21 K 0 F B
set_option maxHeartbeats 4000000 in
set_option maxRecDepth 100000 in
theorem b_M_isVoice_20 {D : va_G} {ca : Nat → ClassId} {ad : Nat → Int → Nat → Nat} {L : List Nat} {aS vS : Nat → Nat} {A : Nat → Prop} {p : Program} {l : Launch} {e : Env} {s : State} {m : MethodId} {args : Array Value} {below : List Frame} {meth : Method} {c : Code} {K : Nat} {r : Int} {F9 : zF} {B9 : zB} (X : zX D ca L aS vS A p s m args meth c prog_15_method_16_code 2 (Option.some Jvm.ClassFile.FieldType.boolean) "StaveHouseModel")  {F : zF} {B : zB} {H : Heap} {locs : List Loc} {ls : Array Slot} (hf : f_M_isVoice_20 K  F B = some (r, F9, B9)) (hZ : zH D ca ad lnM nM L F B A H) (hS : va_S A s.heap H locs) (hl : lv_has ls 2 []) : W p l e ({ frames := 0, cells := 0, slots := 0, locals := 0 } : Room) s m args below meth c H locs 0 0 (MQ below (Q_M_isVoice D ca ad L r F9 B9 A) args s 0 0 A) (F0 m 20 ls []) := by
  obtain ⟨hx, hb, hr, hml, hown, hts, hlk, hK, hA, hL, hX⟩ := id X
  replace hf : (f_M_isVoice_21 K 0 F B) = some (r, F9, B9) := hf
  refine lv_iconst (v := iI 0) hx hb (D_3 W_prog_15_method_16_code_0 20 rfl rfl) rfl ?_
  exact b_M_isVoice_21 X hf hZ hS (lv_sub hl [] rfl)

def f_M_isVoice (K : Nat) (l0 : Int) (l1 : Int) (F : zF) (B : zB) : zO := (if l0 < 0 then f_M_isVoice_20 K F B else if r32 l1 then (if l1 < 0 then f_M_isVoice_20 K F B else if 0 ≤ l0 ∧ l0 < 3 then if r32 (F 13 l0 1) then (if (F 13 l0 1) ≤ l1 then f_M_isVoice_20 K F B else f_M_isVoice_21 K 1 F B) else none else none) else none)
set_option maxHeartbeats 4000000 in
set_option maxRecDepth 100000 in
theorem c_M_isVoice {l : Launch} {D : va_G} {ca : Nat → ClassId} {ad : Nat → Int → Nat → Nat} {L : List Nat} {aS vS : Nat → Nat} {sz K : Nat}  {l0 : Int} {l1 : Int} {F F9 : zF} {B B9 : zB} {r : Int} (hf : f_M_isVoice K l0 l1 F B = some (r, F9, B9)) : Met l ({ cls := "StaveHouseModel", name := "isVoice", desc := "(LStaveHouseModel$Piece;I)Z" } : Jvm.MethodName) (Cond.code ({ cls := "StaveHouseModel", name := "isVoice", desc := "(LStaveHouseModel$Piece;I)Z" } : Jvm.MethodName) prog_15_method_16_code 2 (Option.some Jvm.ClassFile.FieldType.boolean) :: wAll) ({ frames := 0, cells := 0, slots := 0, locals := 0 } : Room) (va_Pc [va_rf (zrf ad 13 l0), .int (iI l1)] (zPre D ca ad lnM nM L aS vS F B sz)) (Q_M_isVoice D ca ad L r F9 B9 (zA L sz)) 0 0 (zA L sz) := by
  refine zMet (Qc := Q_M_isVoice D ca ad L r F9 B9) (lv := [(0, va_rf (zrf ad 13 l0)), (1, .int (iI l1))]) (by decide) (by cases zrf ad 13 l0 <;> exact Nat.le_of_ble_eq_true rfl) (by cases zrf ad 13 l0 <;> rfl) (fun A p e s m below meth c ls X hZ hS hl => ?_)
  obtain ⟨hx, hb, hr, hml, hown, hts, hlk, hK, hA, hL, hX⟩ := id X
  replace hf : ((if l0 < 0 then f_M_isVoice_20 K F B else if r32 l1 then (if l1 < 0 then f_M_isVoice_20 K F B else if 0 ≤ l0 ∧ l0 < 3 then if r32 (F 13 l0 1) then (if (F 13 l0 1) ≤ l1 then f_M_isVoice_20 K F B else f_M_isVoice_21 K 1 F B) else none else none) else none)) = some (r, F9, B9) := hf
  refine zaload_n hx hb (D_42 W_prog_15_method_16_code_0 0 rfl rfl) rfl (lv_at hl 0 rfl) ?_
  refine zifnull (tgt := 20) hx hb (D_198 W_prog_15_method_16_code_0 1 rfl rfl rfl) (by decide) (fun h1 => ?_) (fun h1 => ?_)
  · replace hf := gpos hf h1
    exact b_M_isVoice_20 X hf hZ hS (lv_sub hl [] rfl)
  · replace hf := gneg hf h1
    refine lv_iload_n hx hb (D_27 W_prog_15_method_16_code_0 4 rfl rfl) rfl (lv_at hl 1 rfl) ?_
    obtain ⟨g2, hf⟩ := gif hf
    refine z0lt (tgt := 20) hx hb g2 (D_155 W_prog_15_method_16_code_0 5 rfl rfl rfl) (by decide) (fun h3 => ?_) (fun h3 => ?_)
    · replace hf := gpos hf h3
      exact b_M_isVoice_20 X hf hZ hS (lv_sub hl [] rfl)
    · replace hf := gneg hf h3
      refine lv_iload_n hx hb (D_27 W_prog_15_method_16_code_0 8 rfl rfl) rfl (lv_at hl 1 rfl) ?_
      refine zaload_n hx hb (D_42 W_prog_15_method_16_code_0 9 rfl rfl) rfl (lv_at hl 0 rfl) ?_
      obtain ⟨g4, hf⟩ := gif hf
      refine zunrf g4.1 ?_
      refine zget (ci := 13) (C := RX13) (T := TX13) (v := .int (iI (F 13 l0 1))) (k := 1) hx hb hts inW_13 hown hK hZ g4.1 g4.2 rfl (by decide) k_9_126 rfl (D_180 W_prog_15_method_16_code_0 10 rfl rfl rfl) ?_
      obtain ⟨g5, hf⟩ := gif hf
      refine zge (tgt := 20) hx hb g2 g5 (D_162 W_prog_15_method_16_code_0 13 rfl rfl rfl) (by decide) (fun h6 => ?_) (fun h6 => ?_)
      · replace hf := gpos hf h6
        exact b_M_isVoice_20 X hf hZ hS (lv_sub hl [] rfl)
      · replace hf := gneg hf h6
        refine lv_iconst (v := iI 1) hx hb (D_4 W_prog_15_method_16_code_0 16 rfl rfl) rfl ?_
        refine lv_goto (tgt := 21) hx hb (D_167 W_prog_15_method_16_code_0 17 rfl rfl rfl) (by decide) ?_
        exact b_M_isVoice_21 X hf hZ hS (lv_sub hl [] rfl)

abbrev Q_M_has (D : va_G) (ca : Nat → ClassId) (ad : Nat → Int → Nat → Nat) (L : List Nat) (r : Int) (F : zF) (B : zB) (A : Nat → Prop) : Array Value → State → Outcome → State → Prop := va_Qi (S := Unit) (fun p _ => p = iI r) (fun _ => zPo D ca ad lnM nM L F B A) A
def f_M_has_49 (rec3 : Int → Int → Int → Int → Int → zF → zB → zO) (K : Nat) (l4 : Int) (l0 : Int) (l1 : Int) (l2 : Int) (l3 : Int) (F : zF) (B : zB) : zO := rec3 (l4 + 1) l0 l1 l2 l3 F B
set_option maxHeartbeats 4000000 in
set_option maxRecDepth 100000 in
theorem b_M_has_49 {D : va_G} {ca : Nat → ClassId} {ad : Nat → Int → Nat → Nat} {L : List Nat} {aS vS : Nat → Nat} {A : Nat → Prop} {p : Program} {l : Launch} {e : Env} {s : State} {m : MethodId} {args : Array Value} {below : List Frame} {meth : Method} {c : Code} {K : Nat} {r : Int} {F9 : zF} {B9 : zB} (X : zX D ca L aS vS A p s m args meth c prog_15_method_71_code 5 (Option.some Jvm.ClassFile.FieldType.int) "StaveHouseModel") {rec3 : Int → Int → Int → Int → Int → zF → zB → zO} (hrec3 : ∀ {l4 : Int} {l0 : Int} {l1 : Int} {l2 : Int} {l3 : Int} {F : zF} {B : zB} {H : Heap} {locs : List Loc} {ls : Array Slot}, rec3 l4 l0 l1 l2 l3 F B = some (r, F9, B9) → zH D ca ad lnM nM L F B A H → va_S A s.heap H locs → lv_has ls 5 [(4, .int (iI l4)), (0, .ref (ad 13 l0 0)), (1, .int (iI l1)), (2, .int (iI l2)), (3, .int (iI l3))] → W p l e ({ frames := 0, cells := 0, slots := 0, locals := 0 } : Room) s m args below meth c H locs 0 0 (MQ below (Q_M_has D ca ad L r F9 B9 A) args s 0 0 A) (F0 m 3 ls [])) {l4 : Int} {l0 : Int} {l1 : Int} {l2 : Int} {l3 : Int} {F : zF} {B : zB} {H : Heap} {locs : List Loc} {ls : Array Slot} (hf : f_M_has_49 rec3 K l4 l0 l1 l2 l3 F B = some (r, F9, B9)) (hZ : zH D ca ad lnM nM L F B A H) (hS : va_S A s.heap H locs) (hl : lv_has ls 5 [(4, .int (iI l4)), (0, .ref (ad 13 l0 0)), (1, .int (iI l1)), (2, .int (iI l2)), (3, .int (iI l3))]) : W p l e ({ frames := 0, cells := 0, slots := 0, locals := 0 } : Room) s m args below meth c H locs 0 0 (MQ below (Q_M_has D ca ad L r F9 B9 A) args s 0 0 A) (F0 m 49 ls []) := by
  obtain ⟨hx, hb, hr, hml, hown, hts, hlk, hK, hA, hL, hX⟩ := id X
  replace hf : (rec3 (l4 + 1) l0 l1 l2 l3 F B) = some (r, F9, B9) := hf
  refine lv_iinc (v := iI (l4 + 1)) (lv' := [(4, .int (iI (l4 + 1))), (0, .ref (ad 13 l0 0)), (1, .int (iI l1)), (2, .int (iI l2)), (3, .int (iI l3))]) hx hb d_15_71_49 hl (k := 0) rfl (iI_add _ 1) (by decide) rfl (fun ls hl => ?_)
  refine lv_goto (tgt := 3) hx hb (D_167 W_prog_15_method_71_code_32 20 rfl rfl rfl) (by decide) ?_
  exact hrec3 hf hZ hS (lv_sub hl [0, 1, 2, 3, 4] rfl)

def f_M_has_3 (K : Nat) : Nat → Int → Int → Int → Int → Int → zF → zB → zO
  | 0, _, _, _, _, _, _, _ => none
  | n + 1, l4, l0, l1, l2, l3, F, B => if 0 ≤ l0 ∧ l0 < 3 then if 0 ≤ l1 ∧ l1 < 4000 then if r32 l4 then if r32 (B 13 l0 21 l1) then (if (B 13 l0 21 l1) ≤ l4 then some ((-1), F, B) else if 0 ≤ ((6 * l1) + l4) ∧ ((6 * l1) + l4) < 24000 then if r32 (B 13 l0 28 ((6 * l1) + l4)) then if r32 l2 then (if (B 13 l0 28 ((6 * l1) + l4)) = l2 then if r32 (B 13 l0 29 ((6 * l1) + l4)) then if r32 l3 then (if (B 13 l0 29 ((6 * l1) + l4)) = l3 then some (l4, F, B) else f_M_has_49 (f_M_has_3 K n) K l4 l0 l1 l2 l3 F B) else none else none else f_M_has_49 (f_M_has_3 K n) K l4 l0 l1 l2 l3 F B) else none else none else none) else none else none else none else none
set_option maxHeartbeats 4000000 in
set_option maxRecDepth 100000 in
theorem b_M_has_3 {D : va_G} {ca : Nat → ClassId} {ad : Nat → Int → Nat → Nat} {L : List Nat} {aS vS : Nat → Nat} {A : Nat → Prop} {p : Program} {l : Launch} {e : Env} {s : State} {m : MethodId} {args : Array Value} {below : List Frame} {meth : Method} {c : Code} {K : Nat} {r : Int} {F9 : zF} {B9 : zB} (X : zX D ca L aS vS A p s m args meth c prog_15_method_71_code 5 (Option.some Jvm.ClassFile.FieldType.int) "StaveHouseModel") : ∀ {n : Nat} {l4 : Int} {l0 : Int} {l1 : Int} {l2 : Int} {l3 : Int} {F : zF} {B : zB} {H : Heap} {locs : List Loc} {ls : Array Slot}, f_M_has_3 K n l4 l0 l1 l2 l3 F B = some (r, F9, B9) → zH D ca ad lnM nM L F B A H → va_S A s.heap H locs → lv_has ls 5 [(4, .int (iI l4)), (0, .ref (ad 13 l0 0)), (1, .int (iI l1)), (2, .int (iI l2)), (3, .int (iI l3))] → W p l e ({ frames := 0, cells := 0, slots := 0, locals := 0 } : Room) s m args below meth c H locs 0 0 (MQ below (Q_M_has D ca ad L r F9 B9 A) args s 0 0 A) (F0 m 3 ls []) := by
  obtain ⟨hx, hb, hr, hml, hown, hts, hlk, hK, hA, hL, hX⟩ := id X
  intro n
  induction n with
  | zero =>
    intros
    rename_i hf _ _ _
    cases hf
  | succ n ih =>
    intro l4 l0 l1 l2 l3 F B H locs ls hf hZ hS hl
    replace hf : (if 0 ≤ l0 ∧ l0 < 3 then if 0 ≤ l1 ∧ l1 < 4000 then if r32 l4 then if r32 (B 13 l0 21 l1) then (if (B 13 l0 21 l1) ≤ l4 then some ((-1), F, B) else if 0 ≤ ((6 * l1) + l4) ∧ ((6 * l1) + l4) < 24000 then if r32 (B 13 l0 28 ((6 * l1) + l4)) then if r32 l2 then (if (B 13 l0 28 ((6 * l1) + l4)) = l2 then if r32 (B 13 l0 29 ((6 * l1) + l4)) then if r32 l3 then (if (B 13 l0 29 ((6 * l1) + l4)) = l3 then some (l4, F, B) else f_M_has_49 (f_M_has_3 K n) K l4 l0 l1 l2 l3 F B) else none else none else f_M_has_49 (f_M_has_3 K n) K l4 l0 l1 l2 l3 F B) else none else none else none) else none else none else none else none) = some (r, F9, B9) := hf
    refine lv_iload hx hb (D_21 W_prog_15_method_71_code_0 3 rfl rfl) (lv_at hl 0 rfl) ?_
    refine lv_aload_n hx hb (D_42 W_prog_15_method_71_code_0 5 rfl rfl) rfl (lv_at hl 1 rfl) ?_
    obtain ⟨g1, hf⟩ := gif hf
    refine zget (ci := 13) (C := RX13) (T := TX13) (v := .ref (ad 13 l0 (21 + 1))) (k := 21) hx hb hts inW_13 hown hK hZ g1.1 g1.2 rfl (by decide) k_9_160 rfl (D_180 W_prog_15_method_71_code_0 6 rfl rfl rfl) ?_
    refine lv_iload_n hx hb (D_27 W_prog_15_method_71_code_0 9 rfl rfl) rfl (lv_at hl 2 rfl) ?_
    obtain ⟨g2, hf⟩ := gif hf
    refine zald (ci := 13) (k := 21) hx hb hK rfl hZ g1.1 g1.2 rfl (Nat.le_of_ble_eq_true rfl) g2.1 g2.2 (D_46 W_prog_15_method_71_code_0 10 rfl rfl) ?_
    obtain ⟨g3, hf⟩ := gif hf
    obtain ⟨g4, hf⟩ := gif hf
    refine zge (tgt := 55) hx hb g3 g4 (D_162 W_prog_15_method_71_code_0 11 rfl rfl rfl) (by decide) (fun h5 => ?_) (fun h5 => ?_)
    · replace hf := gpos hf h5
      refine lv_iconst (v := iI (-1)) hx hb (D_2 W_prog_15_method_71_code_32 23 rfl rfl) rfl ?_
      cases hf
      exact W.iret hx hb hr (fun t ht hW => ⟨⟨_, (), rfl, rfl, by rw [ht]; exact hZ, va_K.moved hW.alike hK⟩, hS.F ht⟩) hS.2.2 (D_172 W_prog_15_method_71_code_32 24 rfl rfl) hlk
    · replace hf := gneg hf h5
      refine lv_aload_n hx hb (D_42 W_prog_15_method_71_code_0 14 rfl rfl) rfl (lv_at hl 1 rfl) ?_
      refine zget (ci := 13) (C := RX13) (T := TX13) (v := .ref (ad 13 l0 (28 + 1))) (k := 28) hx hb hts inW_13 hown hK hZ g1.1 g1.2 rfl (by decide) k_9_174 rfl (D_180 W_prog_15_method_71_code_0 15 rfl rfl rfl) ?_
      refine lv_bipush (v := iI 6) hx hb (D_16 W_prog_15_method_71_code_0 18 rfl rfl rfl) (by decide) ?_
      refine lv_iload_n hx hb (D_27 W_prog_15_method_71_code_0 20 rfl rfl) rfl (lv_at hl 2 rfl) ?_
      refine zmul hx hb (D_104 W_prog_15_method_71_code_0 21 rfl rfl) ?_
      refine lv_iload hx hb (D_21 W_prog_15_method_71_code_0 22 rfl rfl) (lv_at hl 0 rfl) ?_
      refine zadd hx hb (D_96 W_prog_15_method_71_code_0 24 rfl rfl) ?_
      obtain ⟨g6, hf⟩ := gif hf
      refine zald (ci := 13) (k := 28) hx hb hK rfl hZ g1.1 g1.2 rfl (Nat.le_of_ble_eq_true rfl) g6.1 g6.2 (D_46 W_prog_15_method_71_code_0 25 rfl rfl) ?_
      refine lv_iload_n hx hb (D_28 W_prog_15_method_71_code_0 26 rfl rfl) rfl (lv_at hl 3 rfl) ?_
      obtain ⟨g7, hf⟩ := gif hf
      obtain ⟨g8, hf⟩ := gif hf
      refine zne (tgt := 49) hx hb g7 g8 (D_160 W_prog_15_method_71_code_0 27 rfl rfl rfl) (by decide) (fun h9 => ?_) (fun h9 => ?_)
      · replace hf := gneg hf h9
        exact b_M_has_49 X ih hf hZ hS (lv_sub hl [0, 1, 2, 3, 4] rfl)
      · replace hf := gpos hf h9
        refine lv_aload_n hx hb (D_42 W_prog_15_method_71_code_0 30 rfl rfl) rfl (lv_at hl 1 rfl) ?_
        refine zget (ci := 13) (C := RX13) (T := TX13) (v := .ref (ad 13 l0 (29 + 1))) (k := 29) hx hb hts inW_13 hown hK hZ g1.1 g1.2 rfl (by decide) k_9_176 rfl (D_180 W_prog_15_method_71_code_0 31 rfl rfl rfl) ?_
        refine lv_bipush (v := iI 6) hx hb (D_16 W_prog_15_method_71_code_32 2 rfl rfl rfl) (by decide) ?_
        refine lv_iload_n hx hb (D_27 W_prog_15_method_71_code_32 4 rfl rfl) rfl (lv_at hl 2 rfl) ?_
        refine zmul hx hb (D_104 W_prog_15_method_71_code_32 5 rfl rfl) ?_
        refine lv_iload hx hb (D_21 W_prog_15_method_71_code_32 6 rfl rfl) (lv_at hl 0 rfl) ?_
        refine zadd hx hb (D_96 W_prog_15_method_71_code_32 8 rfl rfl) ?_
        refine zald (ci := 13) (k := 29) hx hb hK rfl hZ g1.1 g1.2 rfl (Nat.le_of_ble_eq_true rfl) g6.1 g6.2 (D_46 W_prog_15_method_71_code_32 9 rfl rfl) ?_
        refine lv_iload_n hx hb (D_29 W_prog_15_method_71_code_32 10 rfl rfl) rfl (lv_at hl 4 rfl) ?_
        obtain ⟨g10, hf⟩ := gif hf
        obtain ⟨g11, hf⟩ := gif hf
        refine zne (tgt := 49) hx hb g10 g11 (D_160 W_prog_15_method_71_code_32 11 rfl rfl rfl) (by decide) (fun h12 => ?_) (fun h12 => ?_)
        · replace hf := gneg hf h12
          exact b_M_has_49 X ih hf hZ hS (lv_sub hl [0, 1, 2, 3, 4] rfl)
        · replace hf := gpos hf h12
          refine lv_iload hx hb (D_21 W_prog_15_method_71_code_32 14 rfl rfl) (lv_at hl 0 rfl) ?_
          cases hf
          exact W.iret hx hb hr (fun t ht hW => ⟨⟨_, (), rfl, rfl, by rw [ht]; exact hZ, va_K.moved hW.alike hK⟩, hS.F ht⟩) hS.2.2 (D_172 W_prog_15_method_71_code_32 16 rfl rfl) hlk

def f_M_has (K : Nat) (l0 : Int) (l1 : Int) (l2 : Int) (l3 : Int) (F : zF) (B : zB) : zO := f_M_has_3 K K 0 l0 l1 l2 l3 F B
set_option maxHeartbeats 4000000 in
set_option maxRecDepth 100000 in
theorem c_M_has {l : Launch} {D : va_G} {ca : Nat → ClassId} {ad : Nat → Int → Nat → Nat} {L : List Nat} {aS vS : Nat → Nat} {sz K : Nat}  {l0 : Int} {l1 : Int} {l2 : Int} {l3 : Int} {F F9 : zF} {B B9 : zB} {r : Int} (hf : f_M_has K l0 l1 l2 l3 F B = some (r, F9, B9)) : Met l ({ cls := "StaveHouseModel", name := "has", desc := "(LStaveHouseModel$Piece;III)I" } : Jvm.MethodName) (Cond.code ({ cls := "StaveHouseModel", name := "has", desc := "(LStaveHouseModel$Piece;III)I" } : Jvm.MethodName) prog_15_method_71_code 5 (Option.some Jvm.ClassFile.FieldType.int) :: wAll) ({ frames := 0, cells := 0, slots := 0, locals := 0 } : Room) (va_Pc [.ref (ad 13 l0 0), .int (iI l1), .int (iI l2), .int (iI l3)] (zPre D ca ad lnM nM L aS vS F B sz)) (Q_M_has D ca ad L r F9 B9 (zA L sz)) 0 0 (zA L sz) := by
  refine zMet (Qc := Q_M_has D ca ad L r F9 B9) (lv := [(0, .ref (ad 13 l0 0)), (1, .int (iI l1)), (2, .int (iI l2)), (3, .int (iI l3))]) (by decide) (Nat.le_of_ble_eq_true rfl) rfl (fun A p e s m below meth c ls X hZ hS hl => ?_)
  obtain ⟨hx, hb, hr, hml, hown, hts, hlk, hK, hA, hL, hX⟩ := id X
  replace hf : (f_M_has_3 K K 0 l0 l1 l2 l3 F B) = some (r, F9, B9) := hf
  refine lv_iconst (v := iI 0) hx hb (D_3 W_prog_15_method_71_code_0 0 rfl rfl) rfl ?_
  refine lv_istore (lv' := [(4, .int (iI 0)), (0, .ref (ad 13 l0 0)), (1, .int (iI l1)), (2, .int (iI l2)), (3, .int (iI l3))]) hx hb (D_54 W_prog_15_method_71_code_0 1 rfl rfl) hl (by decide) rfl (fun ls hl => ?_)
  exact b_M_has_3 X hf hZ hS (lv_sub hl [0, 1, 2, 3, 4] rfl)

abbrev Q_M_tick (D : va_G) (ca : Nat → ClassId) (ad : Nat → Int → Nat → Nat) (L : List Nat) (r : Int) (F : zF) (B : zB) (A : Nat → Prop) : Array Value → State → Outcome → State → Prop := va_Qi (S := Unit) (fun p _ => p = iI r) (fun _ => zPo D ca ad lnM nM L F B A) A
def f_M_tick (K : Nat) (l0 : Int) (l2 : Int) (F : zF) (B : zB) : zO := if ¬ lI l2 = 0 then if r32 (zldv (384 * l0) l2) then some (zldv (384 * l0) l2, F, B) else none else none
set_option maxHeartbeats 4000000 in
set_option maxRecDepth 100000 in
theorem c_M_tick {l : Launch} {D : va_G} {ca : Nat → ClassId} {ad : Nat → Int → Nat → Nat} {L : List Nat} {aS vS : Nat → Nat} {sz K : Nat}  {l0 : Int} {l2 : Int} {F F9 : zF} {B B9 : zB} {r : Int} (hf : f_M_tick K l0 l2 F B = some (r, F9, B9)) : Met l ({ cls := "StaveHouseModel", name := "tick", desc := "(JJ)I" } : Jvm.MethodName) (Cond.code ({ cls := "StaveHouseModel", name := "tick", desc := "(JJ)I" } : Jvm.MethodName) prog_15_method_112_code 4 (Option.some Jvm.ClassFile.FieldType.int) :: wAll) ({ frames := 0, cells := 0, slots := 0, locals := 0 } : Room) (va_Pc [.long (lI l0), .long (lI l2)] (zPre D ca ad lnM nM L aS vS F B sz)) (Q_M_tick D ca ad L r F9 B9 (zA L sz)) 0 0 (zA L sz) := by
  refine zMet (Qc := Q_M_tick D ca ad L r F9 B9) (lv := [(0, .long (lI l0)), (2, .long (lI l2))]) (by decide) (Nat.le_of_ble_eq_true rfl) rfl (fun A p e s m below meth c ls X hZ hS hl => ?_)
  obtain ⟨hx, hb, hr, hml, hown, hts, hlk, hK, hA, hL, hX⟩ := id X
  replace hf : (if ¬ lI l2 = 0 then if r32 (zldv (384 * l0) l2) then some (zldv (384 * l0) l2, F, B) else none else none) = some (r, F9, B9) := hf
  refine lv_ldc2 hx hb hown (hts _ k_12_142) (D_20 W_prog_15_method_112_code_0 0 rfl rfl rfl) ?_
  refine W.eq (g2 := F0 m 3 ls [.long (lI 384)]) rfl ?_
  refine lv_lload_n hx hb (D_30 W_prog_15_method_112_code_0 3 rfl rfl) rfl (lv_at hl 0 rfl) ?_
  refine zlmul hx hb (D_105 W_prog_15_method_112_code_0 4 rfl rfl) ?_
  refine lv_lload_n hx hb (D_32 W_prog_15_method_112_code_0 5 rfl rfl) rfl (lv_at hl 1 rfl) ?_
  obtain ⟨g1, hf⟩ := gif hf
  refine zldv_r hx hb g1 (D_109 W_prog_15_method_112_code_0 6 rfl rfl) ?_
  obtain ⟨g2, hf⟩ := gif hf
  refine zl2i hx hb g2 (D_136 W_prog_15_method_112_code_0 7 rfl rfl) ?_
  cases hf
  exact W.iret hx hb hr (fun t ht hW => ⟨⟨_, (), rfl, rfl, by rw [ht]; exact hZ, va_K.moved hW.alike hK⟩, hS.F ht⟩) hS.2.2 (D_172 W_prog_15_method_112_code_0 8 rfl rfl) hlk

abbrev Q_M_gcd (D : va_G) (ca : Nat → ClassId) (ad : Nat → Int → Nat → Nat) (L : List Nat) (r : Int) (F : zF) (B : zB) (A : Nat → Prop) : Array Value → State → Outcome → State → Prop := va_Ql (S := Unit) (fun p _ => p = lI r) (fun _ => zPo D ca ad lnM nM L F B A) A
def f_M_gcd_6 (K : Nat) : Nat → Int → Int → zF → zB → zO
  | 0, _, _, _, _ => none
  | n + 1, l6, l4, F, B => if r64 l6 then (if (zcmp l6 0) = 0 then some (l4, F, B) else if ¬ lI l6 = 0 then f_M_gcd_6 K n (zlrm l4 l6) l6 F B else none) else none
set_option maxHeartbeats 4000000 in
set_option maxRecDepth 100000 in
theorem b_M_gcd_6 {D : va_G} {ca : Nat → ClassId} {ad : Nat → Int → Nat → Nat} {L : List Nat} {aS vS : Nat → Nat} {A : Nat → Prop} {p : Program} {l : Launch} {e : Env} {s : State} {m : MethodId} {args : Array Value} {below : List Frame} {meth : Method} {c : Code} {K : Nat} {r : Int} {F9 : zF} {B9 : zB} (X : zX D ca L aS vS A p s m args meth c prog_15_method_1_code 10 (Option.some Jvm.ClassFile.FieldType.long) "StaveHouseModel") : ∀ {n : Nat} {l6 : Int} {l4 : Int} {F : zF} {B : zB} {H : Heap} {locs : List Loc} {ls : Array Slot}, f_M_gcd_6 K n l6 l4 F B = some (r, F9, B9) → zH D ca ad lnM nM L F B A H → va_S A s.heap H locs → lv_has ls 10 [(6, .long (lI l6)), (4, .long (lI l4))] → W p l e ({ frames := 0, cells := 0, slots := 0, locals := 0 } : Room) s m args below meth c H locs 0 0 (MQ below (Q_M_gcd D ca ad L r F9 B9 A) args s 0 0 A) (F0 m 6 ls []) := by
  obtain ⟨hx, hb, hr, hml, hown, hts, hlk, hK, hA, hL, hX⟩ := id X
  intro n
  induction n with
  | zero =>
    intros
    rename_i hf _ _ _
    cases hf
  | succ n ih =>
    intro l6 l4 F B H locs ls hf hZ hS hl
    replace hf : (if r64 l6 then (if (zcmp l6 0) = 0 then some (l4, F, B) else if ¬ lI l6 = 0 then f_M_gcd_6 K n (zlrm l4 l6) l6 F B else none) else none) = some (r, F9, B9) := hf
    refine lv_lload hx hb (D_22 W_prog_15_method_1_code_0 6 rfl rfl) (lv_at hl 0 rfl) ?_
    refine lv_lconst (v := lI 0) hx hb (D_9 W_prog_15_method_1_code_0 8 rfl rfl) (by decide) ?_
    obtain ⟨g1, hf⟩ := gif hf
    refine zcmp_r hx hb g1 (by decide) (D_148 W_prog_15_method_1_code_0 9 rfl rfl) ?_
    refine z0eq (tgt := 31) hx hb zcmp_32 (D_153 W_prog_15_method_1_code_0 10 rfl rfl rfl) (by decide) (fun h2 => ?_) (fun h2 => ?_)
    · replace hf := gpos hf h2
      refine lv_lload hx hb (D_22 W_prog_15_method_1_code_0 31 rfl rfl) (lv_at hl 1 rfl) ?_
      cases hf
      exact W.lret hx hb hr (fun t ht hW => ⟨⟨_, (), rfl, rfl, by rw [ht]; exact hZ, va_K.moved hW.alike hK⟩, hS.F ht⟩) hS.2.2 (D_173 W_prog_15_method_1_code_32 1 rfl rfl) hlk
    · replace hf := gneg hf h2
      refine lv_lload hx hb (D_22 W_prog_15_method_1_code_0 13 rfl rfl) (lv_at hl 1 rfl) ?_
      refine lv_lload hx hb (D_22 W_prog_15_method_1_code_0 15 rfl rfl) (lv_at hl 0 rfl) ?_
      obtain ⟨g3, hf⟩ := gif hf
      refine zlrm_r hx hb g3 (D_113 W_prog_15_method_1_code_0 17 rfl rfl) ?_
      refine lv_lstore (lv' := [(8, .long (lI (zlrm l4 l6))), (6, .long (lI l6)), (4, .long (lI l4))]) hx hb (D_55 W_prog_15_method_1_code_0 18 rfl rfl) hl (by decide) rfl (fun ls hl => ?_)
      refine lv_lload hx hb (D_22 W_prog_15_method_1_code_0 20 rfl rfl) (lv_at hl 1 rfl) ?_
      refine lv_lstore (lv' := [(4, .long (lI l6)), (8, .long (lI (zlrm l4 l6))), (6, .long (lI l6))]) hx hb (D_55 W_prog_15_method_1_code_0 22 rfl rfl) hl (by decide) rfl (fun ls hl => ?_)
      refine lv_lload hx hb (D_22 W_prog_15_method_1_code_0 24 rfl rfl) (lv_at hl 1 rfl) ?_
      refine lv_lstore (lv' := [(6, .long (lI (zlrm l4 l6))), (4, .long (lI l6)), (8, .long (lI (zlrm l4 l6)))]) hx hb (D_55 W_prog_15_method_1_code_0 26 rfl rfl) hl (by decide) rfl (fun ls hl => ?_)
      refine lv_goto (tgt := 6) hx hb (D_167 W_prog_15_method_1_code_0 28 rfl rfl rfl) (by decide) ?_
      exact ih hf hZ hS (lv_sub hl [0, 1] rfl)

def f_M_gcd (K : Nat) (l0 : Int) (l2 : Int) (F : zF) (B : zB) : zO := f_M_gcd_6 K K l2 l0 F B
set_option maxHeartbeats 4000000 in
set_option maxRecDepth 100000 in
theorem c_M_gcd {l : Launch} {D : va_G} {ca : Nat → ClassId} {ad : Nat → Int → Nat → Nat} {L : List Nat} {aS vS : Nat → Nat} {sz K : Nat}  {l0 : Int} {l2 : Int} {F F9 : zF} {B B9 : zB} {r : Int} (hf : f_M_gcd K l0 l2 F B = some (r, F9, B9)) : Met l ({ cls := "StaveHouseModel", name := "gcd", desc := "(JJ)J" } : Jvm.MethodName) (Cond.code ({ cls := "StaveHouseModel", name := "gcd", desc := "(JJ)J" } : Jvm.MethodName) prog_15_method_1_code 10 (Option.some Jvm.ClassFile.FieldType.long) :: wAll) ({ frames := 0, cells := 0, slots := 0, locals := 0 } : Room) (va_Pc [.long (lI l0), .long (lI l2)] (zPre D ca ad lnM nM L aS vS F B sz)) (Q_M_gcd D ca ad L r F9 B9 (zA L sz)) 0 0 (zA L sz) := by
  refine zMet (Qc := Q_M_gcd D ca ad L r F9 B9) (lv := [(0, .long (lI l0)), (2, .long (lI l2))]) (by decide) (Nat.le_of_ble_eq_true rfl) rfl (fun A p e s m below meth c ls X hZ hS hl => ?_)
  obtain ⟨hx, hb, hr, hml, hown, hts, hlk, hK, hA, hL, hX⟩ := id X
  replace hf : (f_M_gcd_6 K K l2 l0 F B) = some (r, F9, B9) := hf
  refine lv_lload_n hx hb (D_30 W_prog_15_method_1_code_0 0 rfl rfl) rfl (lv_at hl 0 rfl) ?_
  refine lv_lstore (lv' := [(4, .long (lI l0)), (0, .long (lI l0)), (2, .long (lI l2))]) hx hb (D_55 W_prog_15_method_1_code_0 1 rfl rfl) hl (by decide) rfl (fun ls hl => ?_)
  refine lv_lload_n hx hb (D_32 W_prog_15_method_1_code_0 3 rfl rfl) rfl (lv_at hl 2 rfl) ?_
  refine lv_lstore (lv' := [(6, .long (lI l2)), (4, .long (lI l0)), (0, .long (lI l0)), (2, .long (lI l2))]) hx hb (D_55 W_prog_15_method_1_code_0 4 rfl rfl) hl (by decide) rfl (fun ls hl => ?_)
  exact b_M_gcd_6 X hf hZ hS (lv_sub hl [0, 1] rfl)

abbrev Q_M_is (D : va_G) (ca : Nat → ClassId) (ad : Nat → Int → Nat → Nat) (L : List Nat) (r : Int) (F : zF) (B : zB) (A : Nat → Prop) : Array Value → State → Outcome → State → Prop := va_Qv (S := Unit) (fun _ => True) (fun _ => zPo D ca ad lnM nM L F B A) A
def f_M_is (K : Nat) (l1 : Int) (l3 : Int) (F : zF) (B : zB) : zO := zbind (f_M_gcd K l1 l3 F B) (fun r1 F1 B1 => if ¬ lI r1 = 0 then some (0, (zup3 (zup3 F1 14 0 0 (zldv l1 r1)) 14 0 1 (zldv l3 r1)), B1) else none)
set_option maxHeartbeats 4000000 in
set_option maxRecDepth 100000 in
theorem c_M_is {l : Launch} {D : va_G} {ca : Nat → ClassId} {ad : Nat → Int → Nat → Nat} {L : List Nat} {aS vS : Nat → Nat} {sz K : Nat}  {l1 : Int} {l3 : Int} {F F9 : zF} {B B9 : zB} {r : Int} (hf : f_M_is K l1 l3 F B = some (r, F9, B9)) : Met l ({ cls := "StaveHouseModel", name := "is", desc := "(JJ)V" } : Jvm.MethodName) (Cond.code ({ cls := "StaveHouseModel", name := "is", desc := "(JJ)V" } : Jvm.MethodName) prog_15_method_2_code 7 (Option.none : Option Jvm.ClassFile.FieldType) :: wAll) ({ frames := 1, cells := 0, slots := 0, locals := 29 } : Room) (va_Pc [.ref (ad 14 0 0), .long (lI l1), .long (lI l3)] (zPre D ca ad lnM nM L aS vS F B sz)) (Q_M_is D ca ad L r F9 B9 (zA L sz)) 0 0 (zA L sz) := by
  refine zMet (Qc := Q_M_is D ca ad L r F9 B9) (lv := [(0, .ref (ad 14 0 0)), (1, .long (lI l1)), (3, .long (lI l3))]) (by decide) (Nat.le_of_ble_eq_true rfl) rfl (fun A p e s m below meth c ls X hZ hS hl => ?_)
  obtain ⟨hx, hb, hr, hml, hown, hts, hlk, hK, hA, hL, hX⟩ := id X
  replace hf : (zbind (f_M_gcd K l1 l3 F B) (fun r1 F1 B1 => if ¬ lI r1 = 0 then some (0, (zup3 (zup3 F1 14 0 0 (zldv l1 r1)) 14 0 1 (zldv l3 r1)), B1) else none)) = some (r, F9, B9) := hf
  refine lv_lload_n hx hb (D_31 W_prog_15_method_2_code_0 0 rfl rfl) rfl (lv_at hl 1 rfl) ?_
  refine lv_lload_n hx hb (D_33 W_prog_15_method_2_code_0 1 rfl rfl) rfl (lv_at hl 2 rfl) ?_
  obtain ⟨r1, F1, B1, hc1, hf⟩ := gbind hf
  refine va_calll (va_runS (As := [.long (lI l1), .long (lI l3)]) (rest := []) ⟨hx, hb, hml, hown, hts⟩ (c_M_gcd (l := l) hc1) (va_cwS 2 hts (gdS k_12_151 k_12_152 k_1_9 k_12_153) rfl rfl rfl (by decide +kernel) ⟨Nat.le_of_ble_eq_true rfl, Nat.le_of_ble_eq_true rfl⟩) (zPS X hZ hS [.long (lI l1), .long (lI l3)]) rfl rfl hl.1 rfl (lv_room (Nat.le_of_ble_eq_true rfl)) (D_184 W_prog_15_method_2_code_0 2 rfl rfl rfl) ⟨Nat.le_of_ble_eq_true rfl, Nat.le_of_ble_eq_true rfl⟩) hS (fun q _ h => zAin X hS q h) (zAin X hS) (fun p1 u1 t1 H1 locs1 ht1 hv1 hw1 hB1 hz1 hk1 hS1 => ?_)
  have hZ1 := zBack X ht1 hB1
  subst hw1
  refine lv_lstore (lv' := [(5, .long (lI r1)), (0, .ref (ad 14 0 0)), (1, .long (lI l1)), (3, .long (lI l3))]) hx hb (D_55 W_prog_15_method_2_code_0 5 rfl rfl) hl (by decide) rfl (fun ls hl => ?_)
  refine lv_aload_n hx hb (D_42 W_prog_15_method_2_code_0 7 rfl rfl) rfl (lv_at hl 1 rfl) ?_
  refine lv_lload_n hx hb (D_31 W_prog_15_method_2_code_0 8 rfl rfl) rfl (lv_at hl 2 rfl) ?_
  refine lv_lload hx hb (D_22 W_prog_15_method_2_code_0 9 rfl rfl) (lv_at hl 0 rfl) ?_
  obtain ⟨g2, hf⟩ := gif hf
  refine zldv_r hx hb g2 (D_109 W_prog_15_method_2_code_0 11 rfl rfl) ?_
  refine zput (ci := 14) (C := RX14) (T := TX14) (k := 0) (v := (zldv l1 r1)) (w := .long (lI (zldv l1 r1))) hx hb hts inW_14 tyX14 tyX14_ok nmX14 hown hK hZ1 hS1 (by decide) (by decide) rfl (by decide) k_10_238 rfl (fun G h => congrArg (fun q => Value.long (lI q)) h) rfl rfl (zno (by decide)) (D_181 W_prog_15_method_2_code_0 12 rfl rfl rfl) (fun H3 locs3 hZ3 hS3 => ?_)
  refine lv_aload_n hx hb (D_42 W_prog_15_method_2_code_0 15 rfl rfl) rfl (lv_at hl 1 rfl) ?_
  refine lv_lload_n hx hb (D_33 W_prog_15_method_2_code_0 16 rfl rfl) rfl (lv_at hl 3 rfl) ?_
  refine lv_lload hx hb (D_22 W_prog_15_method_2_code_0 17 rfl rfl) (lv_at hl 0 rfl) ?_
  refine zldv_r hx hb g2 (D_109 W_prog_15_method_2_code_0 19 rfl rfl) ?_
  refine zput (ci := 14) (C := RX14) (T := TX14) (k := 1) (v := (zldv l3 r1)) (w := .long (lI (zldv l3 r1))) hx hb hts inW_14 tyX14 tyX14_ok nmX14 hown hK hZ3 hS3 (by decide) (by decide) rfl (by decide) k_10_239 rfl (fun G h => congrArg (fun q => Value.long (lI q)) h) rfl rfl (zno (by decide)) (D_181 W_prog_15_method_2_code_0 20 rfl rfl rfl) (fun H4 locs4 hZ4 hS4 => ?_)
  cases hf
  exact W.vret hx hb hr (fun t ht hW => ⟨⟨(), rfl, trivial, by rw [ht]; exact hZ4, va_K.moved hW.alike hK⟩, hS4.F ht⟩) hS4.2.2 (D_177 W_prog_15_method_2_code_0 23 rfl rfl) hlk

abbrev Q_M_tone (D : va_G) (ca : Nat → ClassId) (ad : Nat → Int → Nat → Nat) (L : List Nat) (r : Int) (F : zF) (B : zB) (A : Nat → Prop) : Array Value → State → Outcome → State → Prop := va_Qi (S := Unit) (fun p _ => p = iI r) (fun _ => zPo D ca ad lnM nM L F B A) A
def f_M_tone_18 (K : Nat) (l0 : Int) (l1 : Int) (s0 : Int) (s1 : Int) (F : zF) (B : zB) : zO := some (((12 * ((zdv l0 7) + 1)) + (s0 - s1)) + l1, F, B)
set_option maxHeartbeats 4000000 in
set_option maxRecDepth 100000 in
theorem b_M_tone_18 {D : va_G} {ca : Nat → ClassId} {ad : Nat → Int → Nat → Nat} {L : List Nat} {aS vS : Nat → Nat} {A : Nat → Prop} {p : Program} {l : Launch} {e : Env} {s : State} {m : MethodId} {args : Array Value} {below : List Frame} {meth : Method} {c : Code} {K : Nat} {r : Int} {F9 : zF} {B9 : zB} (X : zX D ca L aS vS A p s m args meth c prog_15_method_17_code 4 (Option.some Jvm.ClassFile.FieldType.int) "StaveHouseModel") {l0 : Int} {l1 : Int} {s0 : Int} {s1 : Int} {F : zF} {B : zB} {H : Heap} {locs : List Loc} {ls : Array Slot} (hf : f_M_tone_18 K l0 l1 s0 s1 F B = some (r, F9, B9)) (hZ : zH D ca ad lnM nM L F B A H) (hS : va_S A s.heap H locs) (hl : lv_has ls 4 [(0, .int (iI l0)), (1, .int (iI l1))]) : W p l e ({ frames := 0, cells := 0, slots := 0, locals := 0 } : Room) s m args below meth c H locs 0 0 (MQ below (Q_M_tone D ca ad L r F9 B9 A) args s 0 0 A) (F0 m 18 ls [.int (iI s1), .int (iI s0)]) := by
  obtain ⟨hx, hb, hr, hml, hown, hts, hlk, hK, hA, hL, hX⟩ := id X
  replace hf : (some (((12 * ((zdv l0 7) + 1)) + (s0 - s1)) + l1, F, B)) = some (r, F9, B9) := hf
  refine zsub hx hb (D_100 W_prog_15_method_17_code_0 18 rfl rfl) ?_
  refine lv_istore_n (lv' := [(3, .int (iI (s0 - s1))), (0, .int (iI l0)), (1, .int (iI l1))]) hx hb (D_62 W_prog_15_method_17_code_0 19 rfl rfl) rfl hl (by decide) rfl (fun ls hl => ?_)
  refine lv_bipush (v := iI 12) hx hb (D_16 W_prog_15_method_17_code_0 20 rfl rfl rfl) (by decide) ?_
  refine lv_iload_n hx hb (D_26 W_prog_15_method_17_code_0 22 rfl rfl) rfl (lv_at hl 1 rfl) ?_
  refine lv_bipush (v := iI 7) hx hb (D_16 W_prog_15_method_17_code_0 23 rfl rfl rfl) (by decide) ?_
  refine zdv_r hx hb (by decide) (D_108 W_prog_15_method_17_code_0 25 rfl rfl) ?_
  refine lv_iconst (v := iI 1) hx hb (D_4 W_prog_15_method_17_code_0 26 rfl rfl) rfl ?_
  refine zadd hx hb (D_96 W_prog_15_method_17_code_0 27 rfl rfl) ?_
  refine zmul hx hb (D_104 W_prog_15_method_17_code_0 28 rfl rfl) ?_
  refine lv_iload_n hx hb (D_29 W_prog_15_method_17_code_0 29 rfl rfl) rfl (lv_at hl 0 rfl) ?_
  refine zadd hx hb (D_96 W_prog_15_method_17_code_0 30 rfl rfl) ?_
  refine lv_iload_n hx hb (D_27 W_prog_15_method_17_code_0 31 rfl rfl) rfl (lv_at hl 2 rfl) ?_
  refine zadd hx hb (D_96 W_prog_15_method_17_code_32 0 rfl rfl) ?_
  cases hf
  exact W.iret hx hb hr (fun t ht hW => ⟨⟨_, (), rfl, rfl, by rw [ht]; exact hZ, va_K.moved hW.alike hK⟩, hS.F ht⟩) hS.2.2 (D_172 W_prog_15_method_17_code_32 1 rfl rfl) hlk

def f_M_tone (K : Nat) (l0 : Int) (l1 : Int) (F : zF) (B : zB) : zO := if r32 (zrm l0 7) then (if (zrm l0 7) ≤ 2 then f_M_tone_18 K l0 l1 (2 * (zrm l0 7)) 0 F B else f_M_tone_18 K l0 l1 (2 * (zrm l0 7)) 1 F B) else none
set_option maxHeartbeats 4000000 in
set_option maxRecDepth 100000 in
theorem c_M_tone {l : Launch} {D : va_G} {ca : Nat → ClassId} {ad : Nat → Int → Nat → Nat} {L : List Nat} {aS vS : Nat → Nat} {sz K : Nat}  {l0 : Int} {l1 : Int} {F F9 : zF} {B B9 : zB} {r : Int} (hf : f_M_tone K l0 l1 F B = some (r, F9, B9)) : Met l ({ cls := "StaveHouseModel", name := "tone", desc := "(II)I" } : Jvm.MethodName) (Cond.code ({ cls := "StaveHouseModel", name := "tone", desc := "(II)I" } : Jvm.MethodName) prog_15_method_17_code 4 (Option.some Jvm.ClassFile.FieldType.int) :: wAll) ({ frames := 0, cells := 0, slots := 0, locals := 0 } : Room) (va_Pc [.int (iI l0), .int (iI l1)] (zPre D ca ad lnM nM L aS vS F B sz)) (Q_M_tone D ca ad L r F9 B9 (zA L sz)) 0 0 (zA L sz) := by
  refine zMet (Qc := Q_M_tone D ca ad L r F9 B9) (lv := [(0, .int (iI l0)), (1, .int (iI l1))]) (by decide) (Nat.le_of_ble_eq_true rfl) rfl (fun A p e s m below meth c ls X hZ hS hl => ?_)
  obtain ⟨hx, hb, hr, hml, hown, hts, hlk, hK, hA, hL, hX⟩ := id X
  replace hf : (if r32 (zrm l0 7) then (if (zrm l0 7) ≤ 2 then f_M_tone_18 K l0 l1 (2 * (zrm l0 7)) 0 F B else f_M_tone_18 K l0 l1 (2 * (zrm l0 7)) 1 F B) else none) = some (r, F9, B9) := hf
  refine lv_iload_n hx hb (D_26 W_prog_15_method_17_code_0 0 rfl rfl) rfl (lv_at hl 0 rfl) ?_
  refine lv_bipush (v := iI 7) hx hb (D_16 W_prog_15_method_17_code_0 1 rfl rfl rfl) (by decide) ?_
  refine zrm_r hx hb (by decide) (D_112 W_prog_15_method_17_code_0 3 rfl rfl) ?_
  refine lv_istore_n (lv' := [(2, .int (iI (zrm l0 7))), (0, .int (iI l0)), (1, .int (iI l1))]) hx hb (D_61 W_prog_15_method_17_code_0 4 rfl rfl) rfl hl (by decide) rfl (fun ls hl => ?_)
  refine lv_iconst (v := iI 2) hx hb (D_5 W_prog_15_method_17_code_0 5 rfl rfl) rfl ?_
  refine lv_iload_n hx hb (D_28 W_prog_15_method_17_code_0 6 rfl rfl) rfl (lv_at hl 0 rfl) ?_
  refine zmul hx hb (D_104 W_prog_15_method_17_code_0 7 rfl rfl) ?_
  refine lv_iload_n hx hb (D_28 W_prog_15_method_17_code_0 8 rfl rfl) rfl (lv_at hl 0 rfl) ?_
  refine lv_iconst (v := iI 2) hx hb (D_5 W_prog_15_method_17_code_0 9 rfl rfl) rfl ?_
  obtain ⟨g1, hf⟩ := gif hf
  refine zle (tgt := 17) hx hb g1 (by decide) (D_164 W_prog_15_method_17_code_0 10 rfl rfl rfl) (by decide) (fun h2 => ?_) (fun h2 => ?_)
  · replace hf := gpos hf h2
    refine lv_iconst (v := iI 0) hx hb (D_3 W_prog_15_method_17_code_0 17 rfl rfl) rfl ?_
    exact b_M_tone_18 X hf hZ hS (lv_sub hl [1, 2] rfl)
  · replace hf := gneg hf h2
    refine lv_iconst (v := iI 1) hx hb (D_4 W_prog_15_method_17_code_0 13 rfl rfl) rfl ?_
    refine lv_goto (tgt := 18) hx hb (D_167 W_prog_15_method_17_code_0 14 rfl rfl rfl) (by decide) ?_
    exact b_M_tone_18 X hf hZ hS (lv_sub hl [1, 2] rfl)

abbrev Q_M_floor (D : va_G) (ca : Nat → ClassId) (ad : Nat → Int → Nat → Nat) (L : List Nat) (r : Int) (F : zF) (B : zB) (A : Nat → Prop) : Array Value → State → Outcome → State → Prop := va_Qi (S := Unit) (fun p _ => p = iI r) (fun _ => zPo D ca ad lnM nM L F B A) A
def f_M_floor_17 (K : Nat) (s0 : Int) (F : zF) (B : zB) : zO := some (s0, F, B)
set_option maxHeartbeats 4000000 in
set_option maxRecDepth 100000 in
theorem b_M_floor_17 {D : va_G} {ca : Nat → ClassId} {ad : Nat → Int → Nat → Nat} {L : List Nat} {aS vS : Nat → Nat} {A : Nat → Prop} {p : Program} {l : Launch} {e : Env} {s : State} {m : MethodId} {args : Array Value} {below : List Frame} {meth : Method} {c : Code} {K : Nat} {r : Int} {F9 : zF} {B9 : zB} (X : zX D ca L aS vS A p s m args meth c prog_15_method_9_code 3 (Option.some Jvm.ClassFile.FieldType.int) "StaveHouseModel") {s0 : Int} {F : zF} {B : zB} {H : Heap} {locs : List Loc} {ls : Array Slot} (hf : f_M_floor_17 K s0 F B = some (r, F9, B9)) (hZ : zH D ca ad lnM nM L F B A H) (hS : va_S A s.heap H locs) (hl : lv_has ls 3 []) : W p l e ({ frames := 0, cells := 0, slots := 0, locals := 0 } : Room) s m args below meth c H locs 0 0 (MQ below (Q_M_floor D ca ad L r F9 B9 A) args s 0 0 A) (F0 m 17 ls [.int (iI s0)]) := by
  obtain ⟨hx, hb, hr, hml, hown, hts, hlk, hK, hA, hL, hX⟩ := id X
  replace hf : (some (s0, F, B)) = some (r, F9, B9) := hf
  cases hf
  exact W.iret hx hb hr (fun t ht hW => ⟨⟨_, (), rfl, rfl, by rw [ht]; exact hZ, va_K.moved hW.alike hK⟩, hS.F ht⟩) hS.2.2 (D_172 W_prog_15_method_9_code_0 17 rfl rfl) hlk

def f_M_floor (K : Nat) (l0 : Int) (l1 : Int) (F : zF) (B : zB) : zO := if ¬ iI l1 = 0 then if r32 (zrm l0 l1) then (if 0 ≤ (zrm l0 l1) then f_M_floor_17 K (zdv l0 l1) F B else f_M_floor_17 K ((zdv l0 l1) - 1) F B) else none else none
set_option maxHeartbeats 4000000 in
set_option maxRecDepth 100000 in
theorem c_M_floor {l : Launch} {D : va_G} {ca : Nat → ClassId} {ad : Nat → Int → Nat → Nat} {L : List Nat} {aS vS : Nat → Nat} {sz K : Nat}  {l0 : Int} {l1 : Int} {F F9 : zF} {B B9 : zB} {r : Int} (hf : f_M_floor K l0 l1 F B = some (r, F9, B9)) : Met l ({ cls := "StaveHouseModel", name := "floor", desc := "(II)I" } : Jvm.MethodName) (Cond.code ({ cls := "StaveHouseModel", name := "floor", desc := "(II)I" } : Jvm.MethodName) prog_15_method_9_code 3 (Option.some Jvm.ClassFile.FieldType.int) :: wAll) ({ frames := 0, cells := 0, slots := 0, locals := 0 } : Room) (va_Pc [.int (iI l0), .int (iI l1)] (zPre D ca ad lnM nM L aS vS F B sz)) (Q_M_floor D ca ad L r F9 B9 (zA L sz)) 0 0 (zA L sz) := by
  refine zMet (Qc := Q_M_floor D ca ad L r F9 B9) (lv := [(0, .int (iI l0)), (1, .int (iI l1))]) (by decide) (Nat.le_of_ble_eq_true rfl) rfl (fun A p e s m below meth c ls X hZ hS hl => ?_)
  obtain ⟨hx, hb, hr, hml, hown, hts, hlk, hK, hA, hL, hX⟩ := id X
  replace hf : (if ¬ iI l1 = 0 then if r32 (zrm l0 l1) then (if 0 ≤ (zrm l0 l1) then f_M_floor_17 K (zdv l0 l1) F B else f_M_floor_17 K ((zdv l0 l1) - 1) F B) else none else none) = some (r, F9, B9) := hf
  refine lv_iload_n hx hb (D_26 W_prog_15_method_9_code_0 0 rfl rfl) rfl (lv_at hl 0 rfl) ?_
  refine lv_iload_n hx hb (D_27 W_prog_15_method_9_code_0 1 rfl rfl) rfl (lv_at hl 1 rfl) ?_
  obtain ⟨g1, hf⟩ := gif hf
  refine zdv_r hx hb g1 (D_108 W_prog_15_method_9_code_0 2 rfl rfl) ?_
  refine lv_istore_n (lv' := [(2, .int (iI (zdv l0 l1))), (0, .int (iI l0)), (1, .int (iI l1))]) hx hb (D_61 W_prog_15_method_9_code_0 3 rfl rfl) rfl hl (by decide) rfl (fun ls hl => ?_)
  refine lv_iload_n hx hb (D_26 W_prog_15_method_9_code_0 4 rfl rfl) rfl (lv_at hl 1 rfl) ?_
  refine lv_iload_n hx hb (D_27 W_prog_15_method_9_code_0 5 rfl rfl) rfl (lv_at hl 2 rfl) ?_
  refine zrm_r hx hb g1 (D_112 W_prog_15_method_9_code_0 6 rfl rfl) ?_
  obtain ⟨g2, hf⟩ := gif hf
  refine z0ge (tgt := 16) hx hb g2 (D_156 W_prog_15_method_9_code_0 7 rfl rfl rfl) (by decide) (fun h3 => ?_) (fun h3 => ?_)
  · replace hf := gpos hf h3
    refine lv_iload_n hx hb (D_28 W_prog_15_method_9_code_0 16 rfl rfl) rfl (lv_at hl 0 rfl) ?_
    exact b_M_floor_17 X hf hZ hS (lv_sub hl [] rfl)
  · replace hf := gneg hf h3
    refine lv_iload_n hx hb (D_28 W_prog_15_method_9_code_0 10 rfl rfl) rfl (lv_at hl 0 rfl) ?_
    refine lv_iconst (v := iI 1) hx hb (D_4 W_prog_15_method_9_code_0 11 rfl rfl) rfl ?_
    refine zsub hx hb (D_100 W_prog_15_method_9_code_0 12 rfl rfl) ?_
    refine lv_goto (tgt := 17) hx hb (D_167 W_prog_15_method_9_code_0 13 rfl rfl rfl) (by decide) ?_
    exact b_M_floor_17 X hf hZ hS (lv_sub hl [] rfl)

abbrev Q_M_forceOf (D : va_G) (ca : Nat → ClassId) (ad : Nat → Int → Nat → Nat) (L : List Nat) (r : Int) (F : zF) (B : zB) (A : Nat → Prop) : Array Value → State → Outcome → State → Prop := va_Qi (S := Unit) (fun p _ => p = iI r) (fun _ => zPo D ca ad lnM nM L F B A) A
def f_M_forceOf_43 (K : Nat) (s0 : Int) (F : zF) (B : zB) : zO := some (s0, F, B)
set_option maxHeartbeats 4000000 in
set_option maxRecDepth 100000 in
theorem b_M_forceOf_43 {D : va_G} {ca : Nat → ClassId} {ad : Nat → Int → Nat → Nat} {L : List Nat} {aS vS : Nat → Nat} {A : Nat → Prop} {p : Program} {l : Launch} {e : Env} {s : State} {m : MethodId} {args : Array Value} {below : List Frame} {meth : Method} {c : Code} {K : Nat} {r : Int} {F9 : zF} {B9 : zB} (X : zX D ca L aS vS A p s m args meth c prog_15_method_117_code 4 (Option.some Jvm.ClassFile.FieldType.int) "StaveHouseModel") {s0 : Int} {F : zF} {B : zB} {H : Heap} {locs : List Loc} {ls : Array Slot} (hf : f_M_forceOf_43 K s0 F B = some (r, F9, B9)) (hZ : zH D ca ad lnM nM L F B A H) (hS : va_S A s.heap H locs) (hl : lv_has ls 4 []) : W p l e ({ frames := 0, cells := 0, slots := 0, locals := 0 } : Room) s m args below meth c H locs 0 0 (MQ below (Q_M_forceOf D ca ad L r F9 B9 A) args s 0 0 A) (F0 m 43 ls [.int (iI s0)]) := by
  obtain ⟨hx, hb, hr, hml, hown, hts, hlk, hK, hA, hL, hX⟩ := id X
  replace hf : (some (s0, F, B)) = some (r, F9, B9) := hf
  cases hf
  exact W.iret hx hb hr (fun t ht hW => ⟨⟨_, (), rfl, rfl, by rw [ht]; exact hZ, va_K.moved hW.alike hK⟩, hS.F ht⟩) hS.2.2 (D_172 W_prog_15_method_117_code_32 11 rfl rfl) hlk

def f_M_forceOf_29 (K : Nat) (s0 : Int) (s1 : Int) (F : zF) (B : zB) : zO := if r32 (s0 + s1) then (if (s0 + s1) ≤ 127 then f_M_forceOf_43 K (s0 + s1) F B else f_M_forceOf_43 K 127 F B) else none
set_option maxHeartbeats 4000000 in
set_option maxRecDepth 100000 in
theorem b_M_forceOf_29 {D : va_G} {ca : Nat → ClassId} {ad : Nat → Int → Nat → Nat} {L : List Nat} {aS vS : Nat → Nat} {A : Nat → Prop} {p : Program} {l : Launch} {e : Env} {s : State} {m : MethodId} {args : Array Value} {below : List Frame} {meth : Method} {c : Code} {K : Nat} {r : Int} {F9 : zF} {B9 : zB} (X : zX D ca L aS vS A p s m args meth c prog_15_method_117_code 4 (Option.some Jvm.ClassFile.FieldType.int) "StaveHouseModel") {s0 : Int} {s1 : Int} {F : zF} {B : zB} {H : Heap} {locs : List Loc} {ls : Array Slot} (hf : f_M_forceOf_29 K s0 s1 F B = some (r, F9, B9)) (hZ : zH D ca ad lnM nM L F B A H) (hS : va_S A s.heap H locs) (hl : lv_has ls 4 []) : W p l e ({ frames := 0, cells := 0, slots := 0, locals := 0 } : Room) s m args below meth c H locs 0 0 (MQ below (Q_M_forceOf D ca ad L r F9 B9 A) args s 0 0 A) (F0 m 29 ls [.int (iI s1), .int (iI s0)]) := by
  obtain ⟨hx, hb, hr, hml, hown, hts, hlk, hK, hA, hL, hX⟩ := id X
  replace hf : (if r32 (s0 + s1) then (if (s0 + s1) ≤ 127 then f_M_forceOf_43 K (s0 + s1) F B else f_M_forceOf_43 K 127 F B) else none) = some (r, F9, B9) := hf
  refine zadd hx hb (D_96 W_prog_15_method_117_code_0 29 rfl rfl) ?_
  refine lv_istore_n (lv' := [(3, .int (iI (s0 + s1)))]) hx hb (D_62 W_prog_15_method_117_code_0 30 rfl rfl) rfl hl (by decide) rfl (fun ls hl => ?_)
  refine lv_iload_n hx hb (D_29 W_prog_15_method_117_code_0 31 rfl rfl) rfl (lv_at hl 0 rfl) ?_
  refine lv_bipush (v := iI 127) hx hb (D_16 W_prog_15_method_117_code_32 0 rfl rfl rfl) (by decide) ?_
  obtain ⟨g6, hf⟩ := gif hf
  refine zle (tgt := 42) hx hb g6 (by decide) (D_164 W_prog_15_method_117_code_32 2 rfl rfl rfl) (by decide) (fun h7 => ?_) (fun h7 => ?_)
  · replace hf := gpos hf h7
    refine lv_iload_n hx hb (D_29 W_prog_15_method_117_code_32 10 rfl rfl) rfl (lv_at hl 0 rfl) ?_
    exact b_M_forceOf_43 X hf hZ hS (lv_sub hl [] rfl)
  · replace hf := gneg hf h7
    refine lv_bipush (v := iI 127) hx hb (D_16 W_prog_15_method_117_code_32 5 rfl rfl rfl) (by decide) ?_
    refine lv_goto (tgt := 43) hx hb (D_167 W_prog_15_method_117_code_32 7 rfl rfl rfl) (by decide) ?_
    exact b_M_forceOf_43 X hf hZ hS (lv_sub hl [] rfl)

def f_M_forceOf (K : Nat) (l1 : Int) (l2 : Int) (F : zF) (B : zB) : zO := if 0 ≤ l1 ∧ l1 < 3 then if 0 ≤ l2 ∧ l2 < 4000 then if 0 ≤ (B 13 l1 19 l2) ∧ (B 13 l1 19 l2) < 8 then if r32 (zand (B 13 l1 18 l2) 16) then (if (zand (B 13 l1 18 l2) 16) ≤ 0 then f_M_forceOf_29 K (B 14 0 61 (B 13 l1 19 l2)) 0 F B else f_M_forceOf_29 K (B 14 0 61 (B 13 l1 19 l2)) 15 F B) else none else none else none else none
set_option maxHeartbeats 4000000 in
set_option maxRecDepth 100000 in
theorem c_M_forceOf {l : Launch} {D : va_G} {ca : Nat → ClassId} {ad : Nat → Int → Nat → Nat} {L : List Nat} {aS vS : Nat → Nat} {sz K : Nat}  {l1 : Int} {l2 : Int} {F F9 : zF} {B B9 : zB} {r : Int} (hf : f_M_forceOf K l1 l2 F B = some (r, F9, B9)) : Met l ({ cls := "StaveHouseModel", name := "forceOf", desc := "(LStaveHouseModel$Piece;I)I" } : Jvm.MethodName) (Cond.code ({ cls := "StaveHouseModel", name := "forceOf", desc := "(LStaveHouseModel$Piece;I)I" } : Jvm.MethodName) prog_15_method_117_code 4 (Option.some Jvm.ClassFile.FieldType.int) :: wAll) ({ frames := 0, cells := 0, slots := 0, locals := 0 } : Room) (va_Pc [.ref (ad 14 0 0), .ref (ad 13 l1 0), .int (iI l2)] (zPre D ca ad lnM nM L aS vS F B sz)) (Q_M_forceOf D ca ad L r F9 B9 (zA L sz)) 0 0 (zA L sz) := by
  refine zMet (Qc := Q_M_forceOf D ca ad L r F9 B9) (lv := [(0, .ref (ad 14 0 0)), (1, .ref (ad 13 l1 0)), (2, .int (iI l2))]) (by decide) (Nat.le_of_ble_eq_true rfl) rfl (fun A p e s m below meth c ls X hZ hS hl => ?_)
  obtain ⟨hx, hb, hr, hml, hown, hts, hlk, hK, hA, hL, hX⟩ := id X
  replace hf : (if 0 ≤ l1 ∧ l1 < 3 then if 0 ≤ l2 ∧ l2 < 4000 then if 0 ≤ (B 13 l1 19 l2) ∧ (B 13 l1 19 l2) < 8 then if r32 (zand (B 13 l1 18 l2) 16) then (if (zand (B 13 l1 18 l2) 16) ≤ 0 then f_M_forceOf_29 K (B 14 0 61 (B 13 l1 19 l2)) 0 F B else f_M_forceOf_29 K (B 14 0 61 (B 13 l1 19 l2)) 15 F B) else none else none else none else none) = some (r, F9, B9) := hf
  refine lv_aload_n hx hb (D_42 W_prog_15_method_117_code_0 0 rfl rfl) rfl (lv_at hl 0 rfl) ?_
  refine zget (ci := 14) (C := RX14) (T := TX14) (v := .ref (ad 14 0 (61 + 1))) (k := 61) hx hb hts inW_14 hown hK hZ (by decide) (by decide) rfl (by decide) k_11_59 rfl (D_180 W_prog_15_method_117_code_0 1 rfl rfl rfl) ?_
  refine lv_aload_n hx hb (D_43 W_prog_15_method_117_code_0 4 rfl rfl) rfl (lv_at hl 1 rfl) ?_
  obtain ⟨g1, hf⟩ := gif hf
  refine zget (ci := 13) (C := RX13) (T := TX13) (v := .ref (ad 13 l1 (19 + 1))) (k := 19) hx hb hts inW_13 hown hK hZ g1.1 g1.2 rfl (by decide) k_9_156 rfl (D_180 W_prog_15_method_117_code_0 5 rfl rfl rfl) ?_
  refine lv_iload_n hx hb (D_28 W_prog_15_method_117_code_0 8 rfl rfl) rfl (lv_at hl 2 rfl) ?_
  obtain ⟨g2, hf⟩ := gif hf
  refine zald (ci := 13) (k := 19) hx hb hK rfl hZ g1.1 g1.2 rfl (Nat.le_of_ble_eq_true rfl) g2.1 g2.2 (D_46 W_prog_15_method_117_code_0 9 rfl rfl) ?_
  obtain ⟨g3, hf⟩ := gif hf
  refine zald (ci := 14) (k := 61) hx hb hK rfl hZ (by decide) (by decide) rfl (Nat.le_of_ble_eq_true rfl) g3.1 g3.2 (D_46 W_prog_15_method_117_code_0 10 rfl rfl) ?_
  refine lv_aload_n hx hb (D_43 W_prog_15_method_117_code_0 11 rfl rfl) rfl (lv_at hl 1 rfl) ?_
  refine zget (ci := 13) (C := RX13) (T := TX13) (v := .ref (ad 13 l1 (18 + 1))) (k := 18) hx hb hts inW_13 hown hK hZ g1.1 g1.2 rfl (by decide) k_9_154 rfl (D_180 W_prog_15_method_117_code_0 12 rfl rfl rfl) ?_
  refine lv_iload_n hx hb (D_28 W_prog_15_method_117_code_0 15 rfl rfl) rfl (lv_at hl 2 rfl) ?_
  refine zald (ci := 13) (k := 18) hx hb hK rfl hZ g1.1 g1.2 rfl (Nat.le_of_ble_eq_true rfl) g2.1 g2.2 (D_46 W_prog_15_method_117_code_0 16 rfl rfl) ?_
  refine lv_bipush (v := iI 16) hx hb (D_16 W_prog_15_method_117_code_0 17 rfl rfl rfl) (by decide) ?_
  refine zand_r hx hb (D_126 W_prog_15_method_117_code_0 19 rfl rfl) ?_
  obtain ⟨g4, hf⟩ := gif hf
  refine z0le (tgt := 28) hx hb g4 (D_158 W_prog_15_method_117_code_0 20 rfl rfl rfl) (by decide) (fun h5 => ?_) (fun h5 => ?_)
  · replace hf := gpos hf h5
    refine lv_iconst (v := iI 0) hx hb (D_3 W_prog_15_method_117_code_0 28 rfl rfl) rfl ?_
    exact b_M_forceOf_29 X hf hZ hS (lv_sub hl [] rfl)
  · replace hf := gneg hf h5
    refine lv_bipush (v := iI 15) hx hb (D_16 W_prog_15_method_117_code_0 23 rfl rfl rfl) (by decide) ?_
    refine lv_goto (tgt := 29) hx hb (D_167 W_prog_15_method_117_code_0 25 rfl rfl rfl) (by decide) ?_
    exact b_M_forceOf_29 X hf hZ hS (lv_sub hl [] rfl)

abbrev Q_M_sound_1 (D : va_G) (ca : Nat → ClassId) (ad : Nat → Int → Nat → Nat) (L : List Nat) (r : Int) (F : zF) (B : zB) (A : Nat → Prop) : Array Value → State → Outcome → State → Prop := va_Qv (S := Unit) (fun _ => True) (fun _ => zPo D ca ad lnM nM L F B A) A
def f_M_sound_1_79 (K : Nat)  (F : zF) (B : zB) : zO := some (0, (zup3 F 14 0 62 ((F 14 0 62) + 1)), B)
set_option maxHeartbeats 4000000 in
set_option maxRecDepth 100000 in
theorem b_M_sound_1_79 {D : va_G} {ca : Nat → ClassId} {ad : Nat → Int → Nat → Nat} {L : List Nat} {aS vS : Nat → Nat} {A : Nat → Prop} {p : Program} {l : Launch} {e : Env} {s : State} {m : MethodId} {args : Array Value} {below : List Frame} {meth : Method} {c : Code} {K : Nat} {r : Int} {F9 : zF} {B9 : zB} (X : zX D ca L aS vS A p s m args meth c prog_15_method_114_code 7 (Option.none : Option Jvm.ClassFile.FieldType) "StaveHouseModel")  {F : zF} {B : zB} {H : Heap} {locs : List Loc} {ls : Array Slot} (hf : f_M_sound_1_79 K  F B = some (r, F9, B9)) (hZ : zH D ca ad lnM nM L F B A H) (hS : va_S A s.heap H locs) (hl : lv_has ls 7 [(0, .ref (ad 14 0 0))]) : W p l e ({ frames := 0, cells := 0, slots := 0, locals := 0 } : Room) s m args below meth c H locs 0 0 (MQ below (Q_M_sound_1 D ca ad L r F9 B9 A) args s 0 0 A) (F0 m 79 ls []) := by
  obtain ⟨hx, hb, hr, hml, hown, hts, hlk, hK, hA, hL, hX⟩ := id X
  replace hf : (some (0, (zup3 F 14 0 62 ((F 14 0 62) + 1)), B)) = some (r, F9, B9) := hf
  refine lv_aload_n hx hb (D_42 W_prog_15_method_114_code_64 15 rfl rfl) rfl (lv_at hl 0 rfl) ?_
  refine lv_dup hx hb (D_89 W_prog_15_method_114_code_64 16 rfl rfl) rfl ?_
  refine zget (ci := 14) (C := RX14) (T := TX14) (v := .int (iI (F 14 0 62))) (k := 62) hx hb hts inW_14 hown hK hZ (by decide) (by decide) rfl (by decide) k_11_60 rfl (D_180 W_prog_15_method_114_code_64 17 rfl rfl rfl) ?_
  refine lv_iconst (v := iI 1) hx hb (D_4 W_prog_15_method_114_code_64 20 rfl rfl) rfl ?_
  refine zadd hx hb (D_96 W_prog_15_method_114_code_64 21 rfl rfl) ?_
  refine zput (ci := 14) (C := RX14) (T := TX14) (k := 62) (v := ((F 14 0 62) + 1)) (w := .int (iI ((F 14 0 62) + 1))) hx hb hts inW_14 tyX14 tyX14_ok nmX14 hown hK hZ hS (by decide) (by decide) rfl (by decide) k_11_60 rfl (fun G h => congrArg (fun q => Value.int (iI q)) h) rfl rfl (zno (by decide)) (D_181 W_prog_15_method_114_code_64 22 rfl rfl rfl) (fun H13 locs13 hZ13 hS13 => ?_)
  cases hf
  exact W.vret hx hb hr (fun t ht hW => ⟨⟨(), rfl, trivial, by rw [ht]; exact hZ13, va_K.moved hW.alike hK⟩, hS13.F ht⟩) hS13.2.2 (D_177 W_prog_15_method_114_code_64 25 rfl rfl) hlk

def f_M_sound_1 (K : Nat) (l1 : Int) (l2 : Int) (l3 : Int) (l4 : Int) (l5 : Int) (l6 : Int) (F : zF) (B : zB) : zO := if r32 l2 then if r32 l1 then (if l2 = l1 then some (0, F, B) else if r32 (F 14 0 62) then (if 2000 ≤ (F 14 0 62) then f_M_sound_1_79 K F B else if 0 ≤ (F 14 0 62) ∧ (F 14 0 62) < 2000 then f_M_sound_1_79 K F (zup4 (zup4 (zup4 (zup4 (zup4 (zup4 B 14 0 63 (F 14 0 62) l1) 14 0 64 (F 14 0 62) l2) 14 0 65 (F 14 0 62) l3) 14 0 66 (F 14 0 62) l4) 14 0 67 (F 14 0 62) l5) 14 0 68 (F 14 0 62) l6) else none) else none) else none else none
set_option maxHeartbeats 4000000 in
set_option maxRecDepth 100000 in
theorem c_M_sound_1 {l : Launch} {D : va_G} {ca : Nat → ClassId} {ad : Nat → Int → Nat → Nat} {L : List Nat} {aS vS : Nat → Nat} {sz K : Nat}  {l1 : Int} {l2 : Int} {l3 : Int} {l4 : Int} {l5 : Int} {l6 : Int} {F F9 : zF} {B B9 : zB} {r : Int} (hf : f_M_sound_1 K l1 l2 l3 l4 l5 l6 F B = some (r, F9, B9)) : Met l ({ cls := "StaveHouseModel", name := "sound", desc := "(IIIIII)V" } : Jvm.MethodName) (Cond.code ({ cls := "StaveHouseModel", name := "sound", desc := "(IIIIII)V" } : Jvm.MethodName) prog_15_method_114_code 7 (Option.none : Option Jvm.ClassFile.FieldType) :: wAll) ({ frames := 0, cells := 0, slots := 0, locals := 0 } : Room) (va_Pc [.ref (ad 14 0 0), .int (iI l1), .int (iI l2), .int (iI l3), .int (iI l4), .int (iI l5), .int (iI l6)] (zPre D ca ad lnM nM L aS vS F B sz)) (Q_M_sound_1 D ca ad L r F9 B9 (zA L sz)) 0 0 (zA L sz) := by
  refine zMet (Qc := Q_M_sound_1 D ca ad L r F9 B9) (lv := [(0, .ref (ad 14 0 0)), (1, .int (iI l1)), (2, .int (iI l2)), (3, .int (iI l3)), (4, .int (iI l4)), (5, .int (iI l5)), (6, .int (iI l6))]) (by decide) (Nat.le_of_ble_eq_true rfl) rfl (fun A p e s m below meth c ls X hZ hS hl => ?_)
  obtain ⟨hx, hb, hr, hml, hown, hts, hlk, hK, hA, hL, hX⟩ := id X
  replace hf : (if r32 l2 then if r32 l1 then (if l2 = l1 then some (0, F, B) else if r32 (F 14 0 62) then (if 2000 ≤ (F 14 0 62) then f_M_sound_1_79 K F B else if 0 ≤ (F 14 0 62) ∧ (F 14 0 62) < 2000 then f_M_sound_1_79 K F (zup4 (zup4 (zup4 (zup4 (zup4 (zup4 B 14 0 63 (F 14 0 62) l1) 14 0 64 (F 14 0 62) l2) 14 0 65 (F 14 0 62) l3) 14 0 66 (F 14 0 62) l4) 14 0 67 (F 14 0 62) l5) 14 0 68 (F 14 0 62) l6) else none) else none) else none else none) = some (r, F9, B9) := hf
  refine lv_iload_n hx hb (D_28 W_prog_15_method_114_code_0 0 rfl rfl) rfl (lv_at hl 2 rfl) ?_
  refine lv_iload_n hx hb (D_27 W_prog_15_method_114_code_0 1 rfl rfl) rfl (lv_at hl 1 rfl) ?_
  obtain ⟨g1, hf⟩ := gif hf
  obtain ⟨g2, hf⟩ := gif hf
  refine zne (tgt := 6) hx hb g1 g2 (D_160 W_prog_15_method_114_code_0 2 rfl rfl rfl) (by decide) (fun h3 => ?_) (fun h3 => ?_)
  · replace hf := gneg hf h3
    refine lv_aload_n hx hb (D_42 W_prog_15_method_114_code_0 6 rfl rfl) rfl (lv_at hl 0 rfl) ?_
    refine zget (ci := 14) (C := RX14) (T := TX14) (v := .int (iI (F 14 0 62))) (k := 62) hx hb hts inW_14 hown hK hZ (by decide) (by decide) rfl (by decide) k_11_60 rfl (D_180 W_prog_15_method_114_code_0 7 rfl rfl rfl) ?_
    refine lv_sipush (v := iI 2000) hx hb (D_17 W_prog_15_method_114_code_0 10 rfl rfl rfl) (by decide) ?_
    obtain ⟨g4, hf⟩ := gif hf
    refine zge (tgt := 79) hx hb g4 (by decide) (D_162 W_prog_15_method_114_code_0 13 rfl rfl rfl) (by decide) (fun h5 => ?_) (fun h5 => ?_)
    · replace hf := gpos hf h5
      exact b_M_sound_1_79 X hf hZ hS (lv_sub hl [0] rfl)
    · replace hf := gneg hf h5
      refine lv_aload_n hx hb (D_42 W_prog_15_method_114_code_0 16 rfl rfl) rfl (lv_at hl 0 rfl) ?_
      refine zget (ci := 14) (C := RX14) (T := TX14) (v := .ref (ad 14 0 (63 + 1))) (k := 63) hx hb hts inW_14 hown hK hZ (by decide) (by decide) rfl (by decide) k_11_61 rfl (D_180 W_prog_15_method_114_code_0 17 rfl rfl rfl) ?_
      refine lv_aload_n hx hb (D_42 W_prog_15_method_114_code_0 20 rfl rfl) rfl (lv_at hl 0 rfl) ?_
      refine zget (ci := 14) (C := RX14) (T := TX14) (v := .int (iI (F 14 0 62))) (k := 62) hx hb hts inW_14 hown hK hZ (by decide) (by decide) rfl (by decide) k_11_60 rfl (D_180 W_prog_15_method_114_code_0 21 rfl rfl rfl) ?_
      refine lv_iload_n hx hb (D_27 W_prog_15_method_114_code_0 24 rfl rfl) rfl (lv_at hl 1 rfl) ?_
      obtain ⟨g6, hf⟩ := gif hf
      refine zast (ci := 14) (k := 63) hx hb hK rfl hZ hS (by decide) (by decide) rfl (Nat.le_of_ble_eq_true rfl) g6.1 g6.2 (D_79 W_prog_15_method_114_code_0 25 rfl rfl) (fun H7 locs7 hZ7 hS7 => ?_)
      refine lv_aload_n hx hb (D_42 W_prog_15_method_114_code_0 26 rfl rfl) rfl (lv_at hl 0 rfl) ?_
      refine zget (ci := 14) (C := RX14) (T := TX14) (v := .ref (ad 14 0 (64 + 1))) (k := 64) hx hb hts inW_14 hown hK hZ7 (by decide) (by decide) rfl (by decide) k_11_62 rfl (D_180 W_prog_15_method_114_code_0 27 rfl rfl rfl) ?_
      refine lv_aload_n hx hb (D_42 W_prog_15_method_114_code_0 30 rfl rfl) rfl (lv_at hl 0 rfl) ?_
      refine zget (ci := 14) (C := RX14) (T := TX14) (v := .int (iI (F 14 0 62))) (k := 62) hx hb hts inW_14 hown hK hZ7 (by decide) (by decide) rfl (by decide) k_11_60 rfl (D_180 W_prog_15_method_114_code_0 31 rfl rfl rfl) ?_
      refine lv_iload_n hx hb (D_28 W_prog_15_method_114_code_32 2 rfl rfl) rfl (lv_at hl 2 rfl) ?_
      refine zast (ci := 14) (k := 64) hx hb hK rfl hZ7 hS7 (by decide) (by decide) rfl (Nat.le_of_ble_eq_true rfl) g6.1 g6.2 (D_79 W_prog_15_method_114_code_32 3 rfl rfl) (fun H8 locs8 hZ8 hS8 => ?_)
      refine lv_aload_n hx hb (D_42 W_prog_15_method_114_code_32 4 rfl rfl) rfl (lv_at hl 0 rfl) ?_
      refine zget (ci := 14) (C := RX14) (T := TX14) (v := .ref (ad 14 0 (65 + 1))) (k := 65) hx hb hts inW_14 hown hK hZ8 (by decide) (by decide) rfl (by decide) k_11_63 rfl (D_180 W_prog_15_method_114_code_32 5 rfl rfl rfl) ?_
      refine lv_aload_n hx hb (D_42 W_prog_15_method_114_code_32 8 rfl rfl) rfl (lv_at hl 0 rfl) ?_
      refine zget (ci := 14) (C := RX14) (T := TX14) (v := .int (iI (F 14 0 62))) (k := 62) hx hb hts inW_14 hown hK hZ8 (by decide) (by decide) rfl (by decide) k_11_60 rfl (D_180 W_prog_15_method_114_code_32 9 rfl rfl rfl) ?_
      refine lv_iload_n hx hb (D_29 W_prog_15_method_114_code_32 12 rfl rfl) rfl (lv_at hl 3 rfl) ?_
      refine zast (ci := 14) (k := 65) hx hb hK rfl hZ8 hS8 (by decide) (by decide) rfl (Nat.le_of_ble_eq_true rfl) g6.1 g6.2 (D_79 W_prog_15_method_114_code_32 13 rfl rfl) (fun H9 locs9 hZ9 hS9 => ?_)
      refine lv_aload_n hx hb (D_42 W_prog_15_method_114_code_32 14 rfl rfl) rfl (lv_at hl 0 rfl) ?_
      refine zget (ci := 14) (C := RX14) (T := TX14) (v := .ref (ad 14 0 (66 + 1))) (k := 66) hx hb hts inW_14 hown hK hZ9 (by decide) (by decide) rfl (by decide) k_11_64 rfl (D_180 W_prog_15_method_114_code_32 15 rfl rfl rfl) ?_
      refine lv_aload_n hx hb (D_42 W_prog_15_method_114_code_32 18 rfl rfl) rfl (lv_at hl 0 rfl) ?_
      refine zget (ci := 14) (C := RX14) (T := TX14) (v := .int (iI (F 14 0 62))) (k := 62) hx hb hts inW_14 hown hK hZ9 (by decide) (by decide) rfl (by decide) k_11_60 rfl (D_180 W_prog_15_method_114_code_32 19 rfl rfl rfl) ?_
      refine lv_iload hx hb (D_21 W_prog_15_method_114_code_32 22 rfl rfl) (lv_at hl 4 rfl) ?_
      refine zast (ci := 14) (k := 66) hx hb hK rfl hZ9 hS9 (by decide) (by decide) rfl (Nat.le_of_ble_eq_true rfl) g6.1 g6.2 (D_79 W_prog_15_method_114_code_32 24 rfl rfl) (fun H10 locs10 hZ10 hS10 => ?_)
      refine lv_aload_n hx hb (D_42 W_prog_15_method_114_code_32 25 rfl rfl) rfl (lv_at hl 0 rfl) ?_
      refine zget (ci := 14) (C := RX14) (T := TX14) (v := .ref (ad 14 0 (67 + 1))) (k := 67) hx hb hts inW_14 hown hK hZ10 (by decide) (by decide) rfl (by decide) k_11_65 rfl (D_180 W_prog_15_method_114_code_32 26 rfl rfl rfl) ?_
      refine lv_aload_n hx hb (D_42 W_prog_15_method_114_code_32 29 rfl rfl) rfl (lv_at hl 0 rfl) ?_
      refine zget (ci := 14) (C := RX14) (T := TX14) (v := .int (iI (F 14 0 62))) (k := 62) hx hb hts inW_14 hown hK hZ10 (by decide) (by decide) rfl (by decide) k_11_60 rfl (D_180 W_prog_15_method_114_code_32 30 rfl rfl rfl) ?_
      refine lv_iload hx hb (D_21 W_prog_15_method_114_code_64 1 rfl rfl) (lv_at hl 5 rfl) ?_
      refine zast (ci := 14) (k := 67) hx hb hK rfl hZ10 hS10 (by decide) (by decide) rfl (Nat.le_of_ble_eq_true rfl) g6.1 g6.2 (D_79 W_prog_15_method_114_code_64 3 rfl rfl) (fun H11 locs11 hZ11 hS11 => ?_)
      refine lv_aload_n hx hb (D_42 W_prog_15_method_114_code_64 4 rfl rfl) rfl (lv_at hl 0 rfl) ?_
      refine zget (ci := 14) (C := RX14) (T := TX14) (v := .ref (ad 14 0 (68 + 1))) (k := 68) hx hb hts inW_14 hown hK hZ11 (by decide) (by decide) rfl (by decide) k_11_66 rfl (D_180 W_prog_15_method_114_code_64 5 rfl rfl rfl) ?_
      refine lv_aload_n hx hb (D_42 W_prog_15_method_114_code_64 8 rfl rfl) rfl (lv_at hl 0 rfl) ?_
      refine zget (ci := 14) (C := RX14) (T := TX14) (v := .int (iI (F 14 0 62))) (k := 62) hx hb hts inW_14 hown hK hZ11 (by decide) (by decide) rfl (by decide) k_11_60 rfl (D_180 W_prog_15_method_114_code_64 9 rfl rfl rfl) ?_
      refine lv_iload hx hb (D_21 W_prog_15_method_114_code_64 12 rfl rfl) (lv_at hl 6 rfl) ?_
      refine zast (ci := 14) (k := 68) hx hb hK rfl hZ11 hS11 (by decide) (by decide) rfl (Nat.le_of_ble_eq_true rfl) g6.1 g6.2 (D_79 W_prog_15_method_114_code_64 14 rfl rfl) (fun H12 locs12 hZ12 hS12 => ?_)
      exact b_M_sound_1_79 X hf hZ12 hS12 (lv_sub hl [0] rfl)
  · replace hf := gpos hf h3
    cases hf
    exact W.vret hx hb hr (fun t ht hW => ⟨⟨(), rfl, trivial, by rw [ht]; exact hZ, va_K.moved hW.alike hK⟩, hS.F ht⟩) hS.2.2 (D_177 W_prog_15_method_114_code_0 5 rfl rfl) hlk

abbrev Q_M_isAhead (D : va_G) (ca : Nat → ClassId) (ad : Nat → Int → Nat → Nat) (L : List Nat) (r : Int) (F : zF) (B : zB) (A : Nat → Prop) : Array Value → State → Outcome → State → Prop := va_Qi (S := Unit) (fun p _ => p = iI r) (fun _ => zPo D ca ad lnM nM L F B A) A
def f_M_isAhead_196 (K : Nat) (s0 : Int) (F : zF) (B : zB) : zO := if (s0 = 0 ∨ s0 = 1) then some (s0, F, B) else none
set_option maxHeartbeats 4000000 in
set_option maxRecDepth 100000 in
theorem b_M_isAhead_196 {D : va_G} {ca : Nat → ClassId} {ad : Nat → Int → Nat → Nat} {L : List Nat} {aS vS : Nat → Nat} {A : Nat → Prop} {p : Program} {l : Launch} {e : Env} {s : State} {m : MethodId} {args : Array Value} {below : List Frame} {meth : Method} {c : Code} {K : Nat} {r : Int} {F9 : zF} {B9 : zB} (X : zX D ca L aS vS A p s m args meth c prog_15_method_120_code 7 (Option.some Jvm.ClassFile.FieldType.boolean) "StaveHouseModel") {s0 : Int} {F : zF} {B : zB} {H : Heap} {locs : List Loc} {ls : Array Slot} (hf : f_M_isAhead_196 K s0 F B = some (r, F9, B9)) (hZ : zH D ca ad lnM nM L F B A H) (hS : va_S A s.heap H locs) (hl : lv_has ls 7 []) : W p l e ({ frames := 0, cells := 0, slots := 0, locals := 0 } : Room) s m args below meth c H locs 0 0 (MQ below (Q_M_isAhead D ca ad L r F9 B9 A) args s 0 0 A) (F0 m 196 ls [.int (iI s0)]) := by
  obtain ⟨hx, hb, hr, hml, hown, hts, hlk, hK, hA, hL, hX⟩ := id X
  replace hf : (if (s0 = 0 ∨ s0 = 1) then some (s0, F, B) else none) = some (r, F9, B9) := hf
  obtain ⟨g35, hf⟩ := gif hf
  cases hf
  exact W.zret hx hb hr (zbool g35) (fun t ht hW => ⟨⟨_, (), rfl, rfl, by rw [ht]; exact hZ, va_K.moved hW.alike hK⟩, hS.F ht⟩) hS.2.2 (D_172 W_prog_15_method_120_code_192 4 rfl rfl) hlk

def f_M_isAhead_174 (K : Nat) (s0 : Int) (F : zF) (B : zB) : zO := if (s0 = 0 ∨ s0 = 1) then some (s0, F, B) else none
set_option maxHeartbeats 4000000 in
set_option maxRecDepth 100000 in
theorem b_M_isAhead_174 {D : va_G} {ca : Nat → ClassId} {ad : Nat → Int → Nat → Nat} {L : List Nat} {aS vS : Nat → Nat} {A : Nat → Prop} {p : Program} {l : Launch} {e : Env} {s : State} {m : MethodId} {args : Array Value} {below : List Frame} {meth : Method} {c : Code} {K : Nat} {r : Int} {F9 : zF} {B9 : zB} (X : zX D ca L aS vS A p s m args meth c prog_15_method_120_code 7 (Option.some Jvm.ClassFile.FieldType.boolean) "StaveHouseModel") {s0 : Int} {F : zF} {B : zB} {H : Heap} {locs : List Loc} {ls : Array Slot} (hf : f_M_isAhead_174 K s0 F B = some (r, F9, B9)) (hZ : zH D ca ad lnM nM L F B A H) (hS : va_S A s.heap H locs) (hl : lv_has ls 7 []) : W p l e ({ frames := 0, cells := 0, slots := 0, locals := 0 } : Room) s m args below meth c H locs 0 0 (MQ below (Q_M_isAhead D ca ad L r F9 B9 A) args s 0 0 A) (F0 m 174 ls [.int (iI s0)]) := by
  obtain ⟨hx, hb, hr, hml, hown, hts, hlk, hK, hA, hL, hX⟩ := id X
  replace hf : (if (s0 = 0 ∨ s0 = 1) then some (s0, F, B) else none) = some (r, F9, B9) := hf
  obtain ⟨g34, hf⟩ := gif hf
  cases hf
  exact W.zret hx hb hr (zbool g34) (fun t ht hW => ⟨⟨_, (), rfl, rfl, by rw [ht]; exact hZ, va_K.moved hW.alike hK⟩, hS.F ht⟩) hS.2.2 (D_172 W_prog_15_method_120_code_160 14 rfl rfl) hlk

def f_M_isAhead_136 (K : Nat) (s0 : Int) (F : zF) (B : zB) : zO := if (s0 = 0 ∨ s0 = 1) then some (s0, F, B) else none
set_option maxHeartbeats 4000000 in
set_option maxRecDepth 100000 in
theorem b_M_isAhead_136 {D : va_G} {ca : Nat → ClassId} {ad : Nat → Int → Nat → Nat} {L : List Nat} {aS vS : Nat → Nat} {A : Nat → Prop} {p : Program} {l : Launch} {e : Env} {s : State} {m : MethodId} {args : Array Value} {below : List Frame} {meth : Method} {c : Code} {K : Nat} {r : Int} {F9 : zF} {B9 : zB} (X : zX D ca L aS vS A p s m args meth c prog_15_method_120_code 7 (Option.some Jvm.ClassFile.FieldType.boolean) "StaveHouseModel") {s0 : Int} {F : zF} {B : zB} {H : Heap} {locs : List Loc} {ls : Array Slot} (hf : f_M_isAhead_136 K s0 F B = some (r, F9, B9)) (hZ : zH D ca ad lnM nM L F B A H) (hS : va_S A s.heap H locs) (hl : lv_has ls 7 []) : W p l e ({ frames := 0, cells := 0, slots := 0, locals := 0 } : Room) s m args below meth c H locs 0 0 (MQ below (Q_M_isAhead D ca ad L r F9 B9 A) args s 0 0 A) (F0 m 136 ls [.int (iI s0)]) := by
  obtain ⟨hx, hb, hr, hml, hown, hts, hlk, hK, hA, hL, hX⟩ := id X
  replace hf : (if (s0 = 0 ∨ s0 = 1) then some (s0, F, B) else none) = some (r, F9, B9) := hf
  obtain ⟨g33, hf⟩ := gif hf
  cases hf
  exact W.zret hx hb hr (zbool g33) (fun t ht hW => ⟨⟨_, (), rfl, rfl, by rw [ht]; exact hZ, va_K.moved hW.alike hK⟩, hS.F ht⟩) hS.2.2 (D_172 W_prog_15_method_120_code_128 8 rfl rfl) hlk

def f_M_isAhead_98 (K : Nat) (s0 : Int) (F : zF) (B : zB) : zO := if (s0 = 0 ∨ s0 = 1) then some (s0, F, B) else none
set_option maxHeartbeats 4000000 in
set_option maxRecDepth 100000 in
theorem b_M_isAhead_98 {D : va_G} {ca : Nat → ClassId} {ad : Nat → Int → Nat → Nat} {L : List Nat} {aS vS : Nat → Nat} {A : Nat → Prop} {p : Program} {l : Launch} {e : Env} {s : State} {m : MethodId} {args : Array Value} {below : List Frame} {meth : Method} {c : Code} {K : Nat} {r : Int} {F9 : zF} {B9 : zB} (X : zX D ca L aS vS A p s m args meth c prog_15_method_120_code 7 (Option.some Jvm.ClassFile.FieldType.boolean) "StaveHouseModel") {s0 : Int} {F : zF} {B : zB} {H : Heap} {locs : List Loc} {ls : Array Slot} (hf : f_M_isAhead_98 K s0 F B = some (r, F9, B9)) (hZ : zH D ca ad lnM nM L F B A H) (hS : va_S A s.heap H locs) (hl : lv_has ls 7 []) : W p l e ({ frames := 0, cells := 0, slots := 0, locals := 0 } : Room) s m args below meth c H locs 0 0 (MQ below (Q_M_isAhead D ca ad L r F9 B9 A) args s 0 0 A) (F0 m 98 ls [.int (iI s0)]) := by
  obtain ⟨hx, hb, hr, hml, hown, hts, hlk, hK, hA, hL, hX⟩ := id X
  replace hf : (if (s0 = 0 ∨ s0 = 1) then some (s0, F, B) else none) = some (r, F9, B9) := hf
  obtain ⟨g31, hf⟩ := gif hf
  cases hf
  exact W.zret hx hb hr (zbool g31) (fun t ht hW => ⟨⟨_, (), rfl, rfl, by rw [ht]; exact hZ, va_K.moved hW.alike hK⟩, hS.F ht⟩) hS.2.2 (D_172 W_prog_15_method_120_code_96 2 rfl rfl) hlk

def f_M_isAhead_76 (K : Nat) (s0 : Int) (F : zF) (B : zB) : zO := if (s0 = 0 ∨ s0 = 1) then some (s0, F, B) else none
set_option maxHeartbeats 4000000 in
set_option maxRecDepth 100000 in
theorem b_M_isAhead_76 {D : va_G} {ca : Nat → ClassId} {ad : Nat → Int → Nat → Nat} {L : List Nat} {aS vS : Nat → Nat} {A : Nat → Prop} {p : Program} {l : Launch} {e : Env} {s : State} {m : MethodId} {args : Array Value} {below : List Frame} {meth : Method} {c : Code} {K : Nat} {r : Int} {F9 : zF} {B9 : zB} (X : zX D ca L aS vS A p s m args meth c prog_15_method_120_code 7 (Option.some Jvm.ClassFile.FieldType.boolean) "StaveHouseModel") {s0 : Int} {F : zF} {B : zB} {H : Heap} {locs : List Loc} {ls : Array Slot} (hf : f_M_isAhead_76 K s0 F B = some (r, F9, B9)) (hZ : zH D ca ad lnM nM L F B A H) (hS : va_S A s.heap H locs) (hl : lv_has ls 7 []) : W p l e ({ frames := 0, cells := 0, slots := 0, locals := 0 } : Room) s m args below meth c H locs 0 0 (MQ below (Q_M_isAhead D ca ad L r F9 B9 A) args s 0 0 A) (F0 m 76 ls [.int (iI s0)]) := by
  obtain ⟨hx, hb, hr, hml, hown, hts, hlk, hK, hA, hL, hX⟩ := id X
  replace hf : (if (s0 = 0 ∨ s0 = 1) then some (s0, F, B) else none) = some (r, F9, B9) := hf
  obtain ⟨g30, hf⟩ := gif hf
  cases hf
  exact W.zret hx hb hr (zbool g30) (fun t ht hW => ⟨⟨_, (), rfl, rfl, by rw [ht]; exact hZ, va_K.moved hW.alike hK⟩, hS.F ht⟩) hS.2.2 (D_172 W_prog_15_method_120_code_64 12 rfl rfl) hlk

def f_M_isAhead_55 (K : Nat) (l5 : Int) (l4 : Int) (l3 : Int) (l1 : Int) (l2 : Int) (s0 : Int) (F : zF) (B : zB) : zO := if r32 l5 then if r32 s0 then (if l5 = s0 then if r32 (zrm l1 2) then if r32 (zrm l2 2) then (if (zrm l1 2) = (zrm l2 2) then if 0 ≤ l3 ∧ l3 < 2000 then if 0 ≤ l4 ∧ l4 < 2000 then if r32 (B 14 0 67 l3) then if r32 (B 14 0 67 l4) then (if (B 14 0 67 l3) = (B 14 0 67 l4) then if r32 (B 14 0 65 l3) then if r32 (B 14 0 65 l4) then (if (B 14 0 65 l3) = (B 14 0 65 l4) then if r32 (B 14 0 68 l3) then if r32 (B 14 0 68 l4) then (if (B 14 0 68 l4) ≤ (B 14 0 68 l3) then f_M_isAhead_196 K 0 F B else f_M_isAhead_196 K 1 F B) else none else none else (if (B 14 0 65 l4) ≤ (B 14 0 65 l3) then f_M_isAhead_174 K 0 F B else f_M_isAhead_174 K 1 F B)) else none else none else (if (B 14 0 67 l4) ≤ (B 14 0 67 l3) then f_M_isAhead_136 K 0 F B else f_M_isAhead_136 K 1 F B)) else none else none else none else none else (if (zrm l1 2) = 1 then f_M_isAhead_98 K 1 F B else f_M_isAhead_98 K 0 F B)) else none else none else (if s0 ≤ l5 then f_M_isAhead_76 K 0 F B else f_M_isAhead_76 K 1 F B)) else none else none
set_option maxHeartbeats 4000000 in
set_option maxRecDepth 100000 in
theorem b_M_isAhead_55 {D : va_G} {ca : Nat → ClassId} {ad : Nat → Int → Nat → Nat} {L : List Nat} {aS vS : Nat → Nat} {A : Nat → Prop} {p : Program} {l : Launch} {e : Env} {s : State} {m : MethodId} {args : Array Value} {below : List Frame} {meth : Method} {c : Code} {K : Nat} {r : Int} {F9 : zF} {B9 : zB} (X : zX D ca L aS vS A p s m args meth c prog_15_method_120_code 7 (Option.some Jvm.ClassFile.FieldType.boolean) "StaveHouseModel") {l5 : Int} {l4 : Int} {l3 : Int} {l1 : Int} {l2 : Int} {s0 : Int} {F : zF} {B : zB} {H : Heap} {locs : List Loc} {ls : Array Slot} (hf : f_M_isAhead_55 K l5 l4 l3 l1 l2 s0 F B = some (r, F9, B9)) (hZ : zH D ca ad lnM nM L F B A H) (hS : va_S A s.heap H locs) (hl : lv_has ls 7 [(5, .int (iI l5)), (4, .int (iI l4)), (3, .int (iI l3)), (0, .ref (ad 14 0 0)), (1, .int (iI l1)), (2, .int (iI l2))]) : W p l e ({ frames := 0, cells := 0, slots := 0, locals := 0 } : Room) s m args below meth c H locs 0 0 (MQ below (Q_M_isAhead D ca ad L r F9 B9 A) args s 0 0 A) (F0 m 55 ls [.int (iI s0)]) := by
  obtain ⟨hx, hb, hr, hml, hown, hts, hlk, hK, hA, hL, hX⟩ := id X
  replace hf : (if r32 l5 then if r32 s0 then (if l5 = s0 then if r32 (zrm l1 2) then if r32 (zrm l2 2) then (if (zrm l1 2) = (zrm l2 2) then if 0 ≤ l3 ∧ l3 < 2000 then if 0 ≤ l4 ∧ l4 < 2000 then if r32 (B 14 0 67 l3) then if r32 (B 14 0 67 l4) then (if (B 14 0 67 l3) = (B 14 0 67 l4) then if r32 (B 14 0 65 l3) then if r32 (B 14 0 65 l4) then (if (B 14 0 65 l3) = (B 14 0 65 l4) then if r32 (B 14 0 68 l3) then if r32 (B 14 0 68 l4) then (if (B 14 0 68 l4) ≤ (B 14 0 68 l3) then f_M_isAhead_196 K 0 F B else f_M_isAhead_196 K 1 F B) else none else none else (if (B 14 0 65 l4) ≤ (B 14 0 65 l3) then f_M_isAhead_174 K 0 F B else f_M_isAhead_174 K 1 F B)) else none else none else (if (B 14 0 67 l4) ≤ (B 14 0 67 l3) then f_M_isAhead_136 K 0 F B else f_M_isAhead_136 K 1 F B)) else none else none else none else none else (if (zrm l1 2) = 1 then f_M_isAhead_98 K 1 F B else f_M_isAhead_98 K 0 F B)) else none else none else (if s0 ≤ l5 then f_M_isAhead_76 K 0 F B else f_M_isAhead_76 K 1 F B)) else none else none) = some (r, F9, B9) := hf
  refine lv_istore (lv' := [(6, .int (iI s0)), (5, .int (iI l5)), (4, .int (iI l4)), (3, .int (iI l3)), (0, .ref (ad 14 0 0)), (1, .int (iI l1)), (2, .int (iI l2))]) hx hb (D_54 W_prog_15_method_120_code_32 23 rfl rfl) hl (by decide) rfl (fun ls hl => ?_)
  refine lv_iload hx hb (D_21 W_prog_15_method_120_code_32 25 rfl rfl) (lv_at hl 1 rfl) ?_
  refine lv_iload hx hb (D_21 W_prog_15_method_120_code_32 27 rfl rfl) (lv_at hl 0 rfl) ?_
  obtain ⟨g9, hf⟩ := gif hf
  obtain ⟨g10, hf⟩ := gif hf
  refine zeq (tgt := 77) hx hb g9 g10 (D_159 W_prog_15_method_120_code_32 29 rfl rfl rfl) (by decide) (fun h11 => ?_) (fun h11 => ?_)
  · replace hf := gpos hf h11
    refine lv_iload_n hx hb (D_27 W_prog_15_method_120_code_64 13 rfl rfl) rfl (lv_at hl 5 rfl) ?_
    refine lv_iconst (v := iI 2) hx hb (D_5 W_prog_15_method_120_code_64 14 rfl rfl) rfl ?_
    refine zrm_r hx hb (by decide) (D_112 W_prog_15_method_120_code_64 15 rfl rfl) ?_
    refine lv_iload_n hx hb (D_28 W_prog_15_method_120_code_64 16 rfl rfl) rfl (lv_at hl 6 rfl) ?_
    refine lv_iconst (v := iI 2) hx hb (D_5 W_prog_15_method_120_code_64 17 rfl rfl) rfl ?_
    refine zrm_r hx hb (by decide) (D_112 W_prog_15_method_120_code_64 18 rfl rfl) ?_
    obtain ⟨g12, hf⟩ := gif hf
    obtain ⟨g13, hf⟩ := gif hf
    refine zeq (tgt := 99) hx hb g12 g13 (D_159 W_prog_15_method_120_code_64 19 rfl rfl rfl) (by decide) (fun h14 => ?_) (fun h14 => ?_)
    · replace hf := gpos hf h14
      refine lv_aload_n hx hb (D_42 W_prog_15_method_120_code_96 3 rfl rfl) rfl (lv_at hl 4 rfl) ?_
      refine zget (ci := 14) (C := RX14) (T := TX14) (v := .ref (ad 14 0 (67 + 1))) (k := 67) hx hb hts inW_14 hown hK hZ (by decide) (by decide) rfl (by decide) k_11_65 rfl (D_180 W_prog_15_method_120_code_96 4 rfl rfl rfl) ?_
      refine lv_iload_n hx hb (D_29 W_prog_15_method_120_code_96 7 rfl rfl) rfl (lv_at hl 3 rfl) ?_
      obtain ⟨g15, hf⟩ := gif hf
      refine zald (ci := 14) (k := 67) hx hb hK rfl hZ (by decide) (by decide) rfl (Nat.le_of_ble_eq_true rfl) g15.1 g15.2 (D_46 W_prog_15_method_120_code_96 8 rfl rfl) ?_
      refine lv_aload_n hx hb (D_42 W_prog_15_method_120_code_96 9 rfl rfl) rfl (lv_at hl 4 rfl) ?_
      refine zget (ci := 14) (C := RX14) (T := TX14) (v := .ref (ad 14 0 (67 + 1))) (k := 67) hx hb hts inW_14 hown hK hZ (by decide) (by decide) rfl (by decide) k_11_65 rfl (D_180 W_prog_15_method_120_code_96 10 rfl rfl rfl) ?_
      refine lv_iload hx hb (D_21 W_prog_15_method_120_code_96 13 rfl rfl) (lv_at hl 2 rfl) ?_
      obtain ⟨g16, hf⟩ := gif hf
      refine zald (ci := 14) (k := 67) hx hb hK rfl hZ (by decide) (by decide) rfl (Nat.le_of_ble_eq_true rfl) g16.1 g16.2 (D_46 W_prog_15_method_120_code_96 15 rfl rfl) ?_
      obtain ⟨g17, hf⟩ := gif hf
      obtain ⟨g18, hf⟩ := gif hf
      refine zeq (tgt := 137) hx hb g17 g18 (D_159 W_prog_15_method_120_code_96 16 rfl rfl rfl) (by decide) (fun h19 => ?_) (fun h19 => ?_)
      · replace hf := gpos hf h19
        refine lv_aload_n hx hb (D_42 W_prog_15_method_120_code_128 9 rfl rfl) rfl (lv_at hl 4 rfl) ?_
        refine zget (ci := 14) (C := RX14) (T := TX14) (v := .ref (ad 14 0 (65 + 1))) (k := 65) hx hb hts inW_14 hown hK hZ (by decide) (by decide) rfl (by decide) k_11_63 rfl (D_180 W_prog_15_method_120_code_128 10 rfl rfl rfl) ?_
        refine lv_iload_n hx hb (D_29 W_prog_15_method_120_code_128 13 rfl rfl) rfl (lv_at hl 3 rfl) ?_
        refine zald (ci := 14) (k := 65) hx hb hK rfl hZ (by decide) (by decide) rfl (Nat.le_of_ble_eq_true rfl) g15.1 g15.2 (D_46 W_prog_15_method_120_code_128 14 rfl rfl) ?_
        refine lv_aload_n hx hb (D_42 W_prog_15_method_120_code_128 15 rfl rfl) rfl (lv_at hl 4 rfl) ?_
        refine zget (ci := 14) (C := RX14) (T := TX14) (v := .ref (ad 14 0 (65 + 1))) (k := 65) hx hb hts inW_14 hown hK hZ (by decide) (by decide) rfl (by decide) k_11_63 rfl (D_180 W_prog_15_method_120_code_128 16 rfl rfl rfl) ?_
        refine lv_iload hx hb (D_21 W_prog_15_method_120_code_128 19 rfl rfl) (lv_at hl 2 rfl) ?_
        refine zald (ci := 14) (k := 65) hx hb hK rfl hZ (by decide) (by decide) rfl (Nat.le_of_ble_eq_true rfl) g16.1 g16.2 (D_46 W_prog_15_method_120_code_128 21 rfl rfl) ?_
        obtain ⟨g20, hf⟩ := gif hf
        obtain ⟨g21, hf⟩ := gif hf
        refine zeq (tgt := 175) hx hb g20 g21 (D_159 W_prog_15_method_120_code_128 22 rfl rfl rfl) (by decide) (fun h22 => ?_) (fun h22 => ?_)
        · replace hf := gpos hf h22
          refine lv_aload_n hx hb (D_42 W_prog_15_method_120_code_160 15 rfl rfl) rfl (lv_at hl 4 rfl) ?_
          refine zget (ci := 14) (C := RX14) (T := TX14) (v := .ref (ad 14 0 (68 + 1))) (k := 68) hx hb hts inW_14 hown hK hZ (by decide) (by decide) rfl (by decide) k_11_66 rfl (D_180 W_prog_15_method_120_code_160 16 rfl rfl rfl) ?_
          refine lv_iload_n hx hb (D_29 W_prog_15_method_120_code_160 19 rfl rfl) rfl (lv_at hl 3 rfl) ?_
          refine zald (ci := 14) (k := 68) hx hb hK rfl hZ (by decide) (by decide) rfl (Nat.le_of_ble_eq_true rfl) g15.1 g15.2 (D_46 W_prog_15_method_120_code_160 20 rfl rfl) ?_
          refine lv_aload_n hx hb (D_42 W_prog_15_method_120_code_160 21 rfl rfl) rfl (lv_at hl 4 rfl) ?_
          refine zget (ci := 14) (C := RX14) (T := TX14) (v := .ref (ad 14 0 (68 + 1))) (k := 68) hx hb hts inW_14 hown hK hZ (by decide) (by decide) rfl (by decide) k_11_66 rfl (D_180 W_prog_15_method_120_code_160 22 rfl rfl rfl) ?_
          refine lv_iload hx hb (D_21 W_prog_15_method_120_code_160 25 rfl rfl) (lv_at hl 2 rfl) ?_
          refine zald (ci := 14) (k := 68) hx hb hK rfl hZ (by decide) (by decide) rfl (Nat.le_of_ble_eq_true rfl) g16.1 g16.2 (D_46 W_prog_15_method_120_code_160 27 rfl rfl) ?_
          obtain ⟨g23, hf⟩ := gif hf
          obtain ⟨g24, hf⟩ := gif hf
          refine zge (tgt := 195) hx hb g23 g24 (D_162 W_prog_15_method_120_code_160 28 rfl rfl rfl) (by decide) (fun h25 => ?_) (fun h25 => ?_)
          · replace hf := gpos hf h25
            refine lv_iconst (v := iI 0) hx hb (D_3 W_prog_15_method_120_code_192 3 rfl rfl) rfl ?_
            exact b_M_isAhead_196 X hf hZ hS (lv_sub hl [] rfl)
          · replace hf := gneg hf h25
            refine lv_iconst (v := iI 1) hx hb (D_4 W_prog_15_method_120_code_160 31 rfl rfl) rfl ?_
            refine lv_goto (tgt := 196) hx hb (D_167 W_prog_15_method_120_code_192 0 rfl rfl rfl) (by decide) ?_
            exact b_M_isAhead_196 X hf hZ hS (lv_sub hl [] rfl)
        · replace hf := gneg hf h22
          refine lv_aload_n hx hb (D_42 W_prog_15_method_120_code_128 25 rfl rfl) rfl (lv_at hl 4 rfl) ?_
          refine zget (ci := 14) (C := RX14) (T := TX14) (v := .ref (ad 14 0 (65 + 1))) (k := 65) hx hb hts inW_14 hown hK hZ (by decide) (by decide) rfl (by decide) k_11_63 rfl (D_180 W_prog_15_method_120_code_128 26 rfl rfl rfl) ?_
          refine lv_iload_n hx hb (D_29 W_prog_15_method_120_code_128 29 rfl rfl) rfl (lv_at hl 3 rfl) ?_
          refine zald (ci := 14) (k := 65) hx hb hK rfl hZ (by decide) (by decide) rfl (Nat.le_of_ble_eq_true rfl) g15.1 g15.2 (D_46 W_prog_15_method_120_code_128 30 rfl rfl) ?_
          refine lv_aload_n hx hb (D_42 W_prog_15_method_120_code_128 31 rfl rfl) rfl (lv_at hl 4 rfl) ?_
          refine zget (ci := 14) (C := RX14) (T := TX14) (v := .ref (ad 14 0 (65 + 1))) (k := 65) hx hb hts inW_14 hown hK hZ (by decide) (by decide) rfl (by decide) k_11_63 rfl (D_180 W_prog_15_method_120_code_160 0 rfl rfl rfl) ?_
          refine lv_iload hx hb (D_21 W_prog_15_method_120_code_160 3 rfl rfl) (lv_at hl 2 rfl) ?_
          refine zald (ci := 14) (k := 65) hx hb hK rfl hZ (by decide) (by decide) rfl (Nat.le_of_ble_eq_true rfl) g16.1 g16.2 (D_46 W_prog_15_method_120_code_160 5 rfl rfl) ?_
          refine zge (tgt := 173) hx hb g20 g21 (D_162 W_prog_15_method_120_code_160 6 rfl rfl rfl) (by decide) (fun h26 => ?_) (fun h26 => ?_)
          · replace hf := gpos hf h26
            refine lv_iconst (v := iI 0) hx hb (D_3 W_prog_15_method_120_code_160 13 rfl rfl) rfl ?_
            exact b_M_isAhead_174 X hf hZ hS (lv_sub hl [] rfl)
          · replace hf := gneg hf h26
            refine lv_iconst (v := iI 1) hx hb (D_4 W_prog_15_method_120_code_160 9 rfl rfl) rfl ?_
            refine lv_goto (tgt := 174) hx hb (D_167 W_prog_15_method_120_code_160 10 rfl rfl rfl) (by decide) ?_
            exact b_M_isAhead_174 X hf hZ hS (lv_sub hl [] rfl)
      · replace hf := gneg hf h19
        refine lv_aload_n hx hb (D_42 W_prog_15_method_120_code_96 19 rfl rfl) rfl (lv_at hl 4 rfl) ?_
        refine zget (ci := 14) (C := RX14) (T := TX14) (v := .ref (ad 14 0 (67 + 1))) (k := 67) hx hb hts inW_14 hown hK hZ (by decide) (by decide) rfl (by decide) k_11_65 rfl (D_180 W_prog_15_method_120_code_96 20 rfl rfl rfl) ?_
        refine lv_iload_n hx hb (D_29 W_prog_15_method_120_code_96 23 rfl rfl) rfl (lv_at hl 3 rfl) ?_
        refine zald (ci := 14) (k := 67) hx hb hK rfl hZ (by decide) (by decide) rfl (Nat.le_of_ble_eq_true rfl) g15.1 g15.2 (D_46 W_prog_15_method_120_code_96 24 rfl rfl) ?_
        refine lv_aload_n hx hb (D_42 W_prog_15_method_120_code_96 25 rfl rfl) rfl (lv_at hl 4 rfl) ?_
        refine zget (ci := 14) (C := RX14) (T := TX14) (v := .ref (ad 14 0 (67 + 1))) (k := 67) hx hb hts inW_14 hown hK hZ (by decide) (by decide) rfl (by decide) k_11_65 rfl (D_180 W_prog_15_method_120_code_96 26 rfl rfl rfl) ?_
        refine lv_iload hx hb (D_21 W_prog_15_method_120_code_96 29 rfl rfl) (lv_at hl 2 rfl) ?_
        refine zald (ci := 14) (k := 67) hx hb hK rfl hZ (by decide) (by decide) rfl (Nat.le_of_ble_eq_true rfl) g16.1 g16.2 (D_46 W_prog_15_method_120_code_96 31 rfl rfl) ?_
        refine zge (tgt := 135) hx hb g17 g18 (D_162 W_prog_15_method_120_code_128 0 rfl rfl rfl) (by decide) (fun h27 => ?_) (fun h27 => ?_)
        · replace hf := gpos hf h27
          refine lv_iconst (v := iI 0) hx hb (D_3 W_prog_15_method_120_code_128 7 rfl rfl) rfl ?_
          exact b_M_isAhead_136 X hf hZ hS (lv_sub hl [] rfl)
        · replace hf := gneg hf h27
          refine lv_iconst (v := iI 1) hx hb (D_4 W_prog_15_method_120_code_128 3 rfl rfl) rfl ?_
          refine lv_goto (tgt := 136) hx hb (D_167 W_prog_15_method_120_code_128 4 rfl rfl rfl) (by decide) ?_
          exact b_M_isAhead_136 X hf hZ hS (lv_sub hl [] rfl)
    · replace hf := gneg hf h14
      refine lv_iload_n hx hb (D_27 W_prog_15_method_120_code_64 22 rfl rfl) rfl (lv_at hl 5 rfl) ?_
      refine lv_iconst (v := iI 2) hx hb (D_5 W_prog_15_method_120_code_64 23 rfl rfl) rfl ?_
      refine zrm_r hx hb (by decide) (D_112 W_prog_15_method_120_code_64 24 rfl rfl) ?_
      refine lv_iconst (v := iI 1) hx hb (D_4 W_prog_15_method_120_code_64 25 rfl rfl) rfl ?_
      refine zne (tgt := 97) hx hb g12 (by decide) (D_160 W_prog_15_method_120_code_64 26 rfl rfl rfl) (by decide) (fun h28 => ?_) (fun h28 => ?_)
      · replace hf := gneg hf h28
        refine lv_iconst (v := iI 0) hx hb (D_3 W_prog_15_method_120_code_96 1 rfl rfl) rfl ?_
        exact b_M_isAhead_98 X hf hZ hS (lv_sub hl [] rfl)
      · replace hf := gpos hf h28
        refine lv_iconst (v := iI 1) hx hb (D_4 W_prog_15_method_120_code_64 29 rfl rfl) rfl ?_
        refine lv_goto (tgt := 98) hx hb (D_167 W_prog_15_method_120_code_64 30 rfl rfl rfl) (by decide) ?_
        exact b_M_isAhead_98 X hf hZ hS (lv_sub hl [] rfl)
  · replace hf := gneg hf h11
    refine lv_iload hx hb (D_21 W_prog_15_method_120_code_64 0 rfl rfl) (lv_at hl 1 rfl) ?_
    refine lv_iload hx hb (D_21 W_prog_15_method_120_code_64 2 rfl rfl) (lv_at hl 0 rfl) ?_
    refine zge (tgt := 75) hx hb g9 g10 (D_162 W_prog_15_method_120_code_64 4 rfl rfl rfl) (by decide) (fun h29 => ?_) (fun h29 => ?_)
    · replace hf := gpos hf h29
      refine lv_iconst (v := iI 0) hx hb (D_3 W_prog_15_method_120_code_64 11 rfl rfl) rfl ?_
      exact b_M_isAhead_76 X hf hZ hS (lv_sub hl [] rfl)
    · replace hf := gneg hf h29
      refine lv_iconst (v := iI 1) hx hb (D_4 W_prog_15_method_120_code_64 7 rfl rfl) rfl ?_
      refine lv_goto (tgt := 76) hx hb (D_167 W_prog_15_method_120_code_64 8 rfl rfl rfl) (by decide) ?_
      exact b_M_isAhead_76 X hf hZ hS (lv_sub hl [] rfl)

def f_M_isAhead_30 (K : Nat) (l4 : Int) (l3 : Int) (l1 : Int) (l2 : Int) (s0 : Int) (F : zF) (B : zB) : zO := if r32 (zrm l2 2) then (if (zrm l2 2) = 0 then if 0 ≤ l4 ∧ l4 < 2000 then f_M_isAhead_55 K s0 l4 l3 l1 l2 (B 14 0 63 l4) F B else none else if 0 ≤ l4 ∧ l4 < 2000 then f_M_isAhead_55 K s0 l4 l3 l1 l2 (B 14 0 64 l4) F B else none) else none
set_option maxHeartbeats 4000000 in
set_option maxRecDepth 100000 in
theorem b_M_isAhead_30 {D : va_G} {ca : Nat → ClassId} {ad : Nat → Int → Nat → Nat} {L : List Nat} {aS vS : Nat → Nat} {A : Nat → Prop} {p : Program} {l : Launch} {e : Env} {s : State} {m : MethodId} {args : Array Value} {below : List Frame} {meth : Method} {c : Code} {K : Nat} {r : Int} {F9 : zF} {B9 : zB} (X : zX D ca L aS vS A p s m args meth c prog_15_method_120_code 7 (Option.some Jvm.ClassFile.FieldType.boolean) "StaveHouseModel") {l4 : Int} {l3 : Int} {l1 : Int} {l2 : Int} {s0 : Int} {F : zF} {B : zB} {H : Heap} {locs : List Loc} {ls : Array Slot} (hf : f_M_isAhead_30 K l4 l3 l1 l2 s0 F B = some (r, F9, B9)) (hZ : zH D ca ad lnM nM L F B A H) (hS : va_S A s.heap H locs) (hl : lv_has ls 7 [(4, .int (iI l4)), (3, .int (iI l3)), (0, .ref (ad 14 0 0)), (1, .int (iI l1)), (2, .int (iI l2))]) : W p l e ({ frames := 0, cells := 0, slots := 0, locals := 0 } : Room) s m args below meth c H locs 0 0 (MQ below (Q_M_isAhead D ca ad L r F9 B9 A) args s 0 0 A) (F0 m 30 ls [.int (iI s0)]) := by
  obtain ⟨hx, hb, hr, hml, hown, hts, hlk, hK, hA, hL, hX⟩ := id X
  replace hf : (if r32 (zrm l2 2) then (if (zrm l2 2) = 0 then if 0 ≤ l4 ∧ l4 < 2000 then f_M_isAhead_55 K s0 l4 l3 l1 l2 (B 14 0 63 l4) F B else none else if 0 ≤ l4 ∧ l4 < 2000 then f_M_isAhead_55 K s0 l4 l3 l1 l2 (B 14 0 64 l4) F B else none) else none) = some (r, F9, B9) := hf
  refine lv_istore (lv' := [(5, .int (iI s0)), (4, .int (iI l4)), (3, .int (iI l3)), (0, .ref (ad 14 0 0)), (1, .int (iI l1)), (2, .int (iI l2))]) hx hb (D_54 W_prog_15_method_120_code_0 30 rfl rfl) hl (by decide) rfl (fun ls hl => ?_)
  refine lv_iload_n hx hb (D_28 W_prog_15_method_120_code_32 0 rfl rfl) rfl (lv_at hl 5 rfl) ?_
  refine lv_iconst (v := iI 2) hx hb (D_5 W_prog_15_method_120_code_32 1 rfl rfl) rfl ?_
  refine zrm_r hx hb (by decide) (D_112 W_prog_15_method_120_code_32 2 rfl rfl) ?_
  obtain ⟨g5, hf⟩ := gif hf
  refine z0ne (tgt := 48) hx hb g5 (D_154 W_prog_15_method_120_code_32 3 rfl rfl rfl) (by decide) (fun h6 => ?_) (fun h6 => ?_)
  · replace hf := gneg hf h6
    refine lv_aload_n hx hb (D_42 W_prog_15_method_120_code_32 16 rfl rfl) rfl (lv_at hl 3 rfl) ?_
    refine zget (ci := 14) (C := RX14) (T := TX14) (v := .ref (ad 14 0 (64 + 1))) (k := 64) hx hb hts inW_14 hown hK hZ (by decide) (by decide) rfl (by decide) k_11_62 rfl (D_180 W_prog_15_method_120_code_32 17 rfl rfl rfl) ?_
    refine lv_iload hx hb (D_21 W_prog_15_method_120_code_32 20 rfl rfl) (lv_at hl 1 rfl) ?_
    obtain ⟨g7, hf⟩ := gif hf
    refine zald (ci := 14) (k := 64) hx hb hK rfl hZ (by decide) (by decide) rfl (Nat.le_of_ble_eq_true rfl) g7.1 g7.2 (D_46 W_prog_15_method_120_code_32 22 rfl rfl) ?_
    exact b_M_isAhead_55 X hf hZ hS (lv_sub hl [0, 1, 2, 3, 4, 5] rfl)
  · replace hf := gpos hf h6
    refine lv_aload_n hx hb (D_42 W_prog_15_method_120_code_32 6 rfl rfl) rfl (lv_at hl 3 rfl) ?_
    refine zget (ci := 14) (C := RX14) (T := TX14) (v := .ref (ad 14 0 (63 + 1))) (k := 63) hx hb hts inW_14 hown hK hZ (by decide) (by decide) rfl (by decide) k_11_61 rfl (D_180 W_prog_15_method_120_code_32 7 rfl rfl rfl) ?_
    refine lv_iload hx hb (D_21 W_prog_15_method_120_code_32 10 rfl rfl) (lv_at hl 1 rfl) ?_
    obtain ⟨g8, hf⟩ := gif hf
    refine zald (ci := 14) (k := 63) hx hb hK rfl hZ (by decide) (by decide) rfl (Nat.le_of_ble_eq_true rfl) g8.1 g8.2 (D_46 W_prog_15_method_120_code_32 12 rfl rfl) ?_
    refine lv_goto (tgt := 55) hx hb (D_167 W_prog_15_method_120_code_32 13 rfl rfl rfl) (by decide) ?_
    exact b_M_isAhead_55 X hf hZ hS (lv_sub hl [0, 1, 2, 3, 4, 5] rfl)

def f_M_isAhead (K : Nat) (l1 : Int) (l2 : Int) (F : zF) (B : zB) : zO := if r32 (zrm l1 2) then (if (zrm l1 2) = 0 then if 0 ≤ (zdv l1 2) ∧ (zdv l1 2) < 2000 then f_M_isAhead_30 K (zdv l2 2) (zdv l1 2) l1 l2 (B 14 0 63 (zdv l1 2)) F B else none else if 0 ≤ (zdv l1 2) ∧ (zdv l1 2) < 2000 then f_M_isAhead_30 K (zdv l2 2) (zdv l1 2) l1 l2 (B 14 0 64 (zdv l1 2)) F B else none) else none
set_option maxHeartbeats 4000000 in
set_option maxRecDepth 100000 in
theorem c_M_isAhead {l : Launch} {D : va_G} {ca : Nat → ClassId} {ad : Nat → Int → Nat → Nat} {L : List Nat} {aS vS : Nat → Nat} {sz K : Nat}  {l1 : Int} {l2 : Int} {F F9 : zF} {B B9 : zB} {r : Int} (hf : f_M_isAhead K l1 l2 F B = some (r, F9, B9)) : Met l ({ cls := "StaveHouseModel", name := "isAhead", desc := "(II)Z" } : Jvm.MethodName) (Cond.code ({ cls := "StaveHouseModel", name := "isAhead", desc := "(II)Z" } : Jvm.MethodName) prog_15_method_120_code 7 (Option.some Jvm.ClassFile.FieldType.boolean) :: wAll) ({ frames := 0, cells := 0, slots := 0, locals := 0 } : Room) (va_Pc [.ref (ad 14 0 0), .int (iI l1), .int (iI l2)] (zPre D ca ad lnM nM L aS vS F B sz)) (Q_M_isAhead D ca ad L r F9 B9 (zA L sz)) 0 0 (zA L sz) := by
  refine zMet (Qc := Q_M_isAhead D ca ad L r F9 B9) (lv := [(0, .ref (ad 14 0 0)), (1, .int (iI l1)), (2, .int (iI l2))]) (by decide) (Nat.le_of_ble_eq_true rfl) rfl (fun A p e s m below meth c ls X hZ hS hl => ?_)
  obtain ⟨hx, hb, hr, hml, hown, hts, hlk, hK, hA, hL, hX⟩ := id X
  replace hf : (if r32 (zrm l1 2) then (if (zrm l1 2) = 0 then if 0 ≤ (zdv l1 2) ∧ (zdv l1 2) < 2000 then f_M_isAhead_30 K (zdv l2 2) (zdv l1 2) l1 l2 (B 14 0 63 (zdv l1 2)) F B else none else if 0 ≤ (zdv l1 2) ∧ (zdv l1 2) < 2000 then f_M_isAhead_30 K (zdv l2 2) (zdv l1 2) l1 l2 (B 14 0 64 (zdv l1 2)) F B else none) else none) = some (r, F9, B9) := hf
  refine lv_iload_n hx hb (D_27 W_prog_15_method_120_code_0 0 rfl rfl) rfl (lv_at hl 1 rfl) ?_
  refine lv_iconst (v := iI 2) hx hb (D_5 W_prog_15_method_120_code_0 1 rfl rfl) rfl ?_
  refine zdv_r hx hb (by decide) (D_108 W_prog_15_method_120_code_0 2 rfl rfl) ?_
  refine lv_istore_n (lv' := [(3, .int (iI (zdv l1 2))), (0, .ref (ad 14 0 0)), (1, .int (iI l1)), (2, .int (iI l2))]) hx hb (D_62 W_prog_15_method_120_code_0 3 rfl rfl) rfl hl (by decide) rfl (fun ls hl => ?_)
  refine lv_iload_n hx hb (D_28 W_prog_15_method_120_code_0 4 rfl rfl) rfl (lv_at hl 3 rfl) ?_
  refine lv_iconst (v := iI 2) hx hb (D_5 W_prog_15_method_120_code_0 5 rfl rfl) rfl ?_
  refine zdv_r hx hb (by decide) (D_108 W_prog_15_method_120_code_0 6 rfl rfl) ?_
  refine lv_istore (lv' := [(4, .int (iI (zdv l2 2))), (3, .int (iI (zdv l1 2))), (0, .ref (ad 14 0 0)), (1, .int (iI l1)), (2, .int (iI l2))]) hx hb (D_54 W_prog_15_method_120_code_0 7 rfl rfl) hl (by decide) rfl (fun ls hl => ?_)
  refine lv_iload_n hx hb (D_27 W_prog_15_method_120_code_0 9 rfl rfl) rfl (lv_at hl 3 rfl) ?_
  refine lv_iconst (v := iI 2) hx hb (D_5 W_prog_15_method_120_code_0 10 rfl rfl) rfl ?_
  refine zrm_r hx hb (by decide) (D_112 W_prog_15_method_120_code_0 11 rfl rfl) ?_
  obtain ⟨g1, hf⟩ := gif hf
  refine z0ne (tgt := 24) hx hb g1 (D_154 W_prog_15_method_120_code_0 12 rfl rfl rfl) (by decide) (fun h2 => ?_) (fun h2 => ?_)
  · replace hf := gneg hf h2
    refine lv_aload_n hx hb (D_42 W_prog_15_method_120_code_0 24 rfl rfl) rfl (lv_at hl 2 rfl) ?_
    refine zget (ci := 14) (C := RX14) (T := TX14) (v := .ref (ad 14 0 (64 + 1))) (k := 64) hx hb hts inW_14 hown hK hZ (by decide) (by decide) rfl (by decide) k_11_62 rfl (D_180 W_prog_15_method_120_code_0 25 rfl rfl rfl) ?_
    refine lv_iload_n hx hb (D_29 W_prog_15_method_120_code_0 28 rfl rfl) rfl (lv_at hl 1 rfl) ?_
    obtain ⟨g3, hf⟩ := gif hf
    refine zald (ci := 14) (k := 64) hx hb hK rfl hZ (by decide) (by decide) rfl (Nat.le_of_ble_eq_true rfl) g3.1 g3.2 (D_46 W_prog_15_method_120_code_0 29 rfl rfl) ?_
    exact b_M_isAhead_30 X hf hZ hS (lv_sub hl [0, 1, 2, 3, 4] rfl)
  · replace hf := gpos hf h2
    refine lv_aload_n hx hb (D_42 W_prog_15_method_120_code_0 15 rfl rfl) rfl (lv_at hl 2 rfl) ?_
    refine zget (ci := 14) (C := RX14) (T := TX14) (v := .ref (ad 14 0 (63 + 1))) (k := 63) hx hb hts inW_14 hown hK hZ (by decide) (by decide) rfl (by decide) k_11_61 rfl (D_180 W_prog_15_method_120_code_0 16 rfl rfl rfl) ?_
    refine lv_iload_n hx hb (D_29 W_prog_15_method_120_code_0 19 rfl rfl) rfl (lv_at hl 1 rfl) ?_
    obtain ⟨g4, hf⟩ := gif hf
    refine zald (ci := 14) (k := 63) hx hb hK rfl hZ (by decide) (by decide) rfl (Nat.le_of_ble_eq_true rfl) g4.1 g4.2 (D_46 W_prog_15_method_120_code_0 20 rfl rfl) ?_
    refine lv_goto (tgt := 30) hx hb (D_167 W_prog_15_method_120_code_0 21 rfl rfl rfl) (by decide) ?_
    exact b_M_isAhead_30 X hf hZ hS (lv_sub hl [0, 1, 2, 3, 4] rfl)

abbrev Q_M_stroke (D : va_G) (ca : Nat → ClassId) (ad : Nat → Int → Nat → Nat) (L : List Nat) (r : Int) (F : zF) (B : zB) (A : Nat → Prop) : Array Value → State → Outcome → State → Prop := va_Qi (S := Unit) (fun p _ => p = iI r) (fun _ => zPo D ca ad lnM nM L F B A) A
def f_M_stroke_89 (K : Nat) (s0 : Int) (F : zF) (B : zB) : zO := some (s0, F, B)
set_option maxHeartbeats 4000000 in
set_option maxRecDepth 100000 in
theorem b_M_stroke_89 {D : va_G} {ca : Nat → ClassId} {ad : Nat → Int → Nat → Nat} {L : List Nat} {aS vS : Nat → Nat} {A : Nat → Prop} {p : Program} {l : Launch} {e : Env} {s : State} {m : MethodId} {args : Array Value} {below : List Frame} {meth : Method} {c : Code} {K : Nat} {r : Int} {F9 : zF} {B9 : zB} (X : zX D ca L aS vS A p s m args meth c prog_15_method_122_code 5 (Option.some Jvm.ClassFile.FieldType.int) "StaveHouseModel") {s0 : Int} {F : zF} {B : zB} {H : Heap} {locs : List Loc} {ls : Array Slot} (hf : f_M_stroke_89 K s0 F B = some (r, F9, B9)) (hZ : zH D ca ad lnM nM L F B A H) (hS : va_S A s.heap H locs) (hl : lv_has ls 5 []) : W p l e ({ frames := 1, cells := 0, slots := 0, locals := 21 } : Room) s m args below meth c H locs 0 0 (MQ below (Q_M_stroke D ca ad L r F9 B9 A) args s 0 0 A) (F0 m 89 ls [.int (iI s0)]) := by
  obtain ⟨hx, hb, hr, hml, hown, hts, hlk, hK, hA, hL, hX⟩ := id X
  replace hf : (some (s0, F, B)) = some (r, F9, B9) := hf
  cases hf
  exact W.iret hx hb hr (fun t ht hW => ⟨⟨_, (), rfl, rfl, by rw [ht]; exact hZ, va_K.moved hW.alike hK⟩, hS.F ht⟩) hS.2.2 (D_172 W_prog_15_method_122_code_64 25 rfl rfl) hlk

def f_M_stroke_33 (K : Nat)  (F : zF) (B : zB) : zO := some ((-1), F, B)
set_option maxHeartbeats 4000000 in
set_option maxRecDepth 100000 in
theorem b_M_stroke_33 {D : va_G} {ca : Nat → ClassId} {ad : Nat → Int → Nat → Nat} {L : List Nat} {aS vS : Nat → Nat} {A : Nat → Prop} {p : Program} {l : Launch} {e : Env} {s : State} {m : MethodId} {args : Array Value} {below : List Frame} {meth : Method} {c : Code} {K : Nat} {r : Int} {F9 : zF} {B9 : zB} (X : zX D ca L aS vS A p s m args meth c prog_15_method_122_code 5 (Option.some Jvm.ClassFile.FieldType.int) "StaveHouseModel")  {F : zF} {B : zB} {H : Heap} {locs : List Loc} {ls : Array Slot} (hf : f_M_stroke_33 K  F B = some (r, F9, B9)) (hZ : zH D ca ad lnM nM L F B A H) (hS : va_S A s.heap H locs) (hl : lv_has ls 5 []) : W p l e ({ frames := 1, cells := 0, slots := 0, locals := 21 } : Room) s m args below meth c H locs 0 0 (MQ below (Q_M_stroke D ca ad L r F9 B9 A) args s 0 0 A) (F0 m 33 ls []) := by
  obtain ⟨hx, hb, hr, hml, hown, hts, hlk, hK, hA, hL, hX⟩ := id X
  replace hf : (some ((-1), F, B)) = some (r, F9, B9) := hf
  refine lv_iconst (v := iI (-1)) hx hb (D_2 W_prog_15_method_122_code_32 1 rfl rfl) rfl ?_
  cases hf
  exact W.iret hx hb hr (fun t ht hW => ⟨⟨_, (), rfl, rfl, by rw [ht]; exact hZ, va_K.moved hW.alike hK⟩, hS.F ht⟩) hS.2.2 (D_172 W_prog_15_method_122_code_32 2 rfl rfl) hlk

def f_M_stroke (K : Nat) (l1 : Int) (l2 : Int) (l3 : Int) (F : zF) (B : zB) : zO := zbind (f_M_piece K l1 F B) (fun r1 F1 B1 => (if r1 < 0 then f_M_stroke_33 K F1 B1 else if 0 ≤ r1 ∧ r1 < 3 then if r32 (F1 13 r1 53) then (if (F1 13 r1 53) = 0 then f_M_stroke_33 K F1 B1 else if r32 l2 then (if l2 < 0 then f_M_stroke_33 K F1 B1 else if r32 (F1 13 r1 60) then (if l2 < (F1 13 r1 60) then if r32 l3 then (if l3 = 0 then if 0 ≤ l2 ∧ l2 < 4000 then some (B1 13 r1 61 l2, F1, B1) else none else (if l3 = 1 then if 0 ≤ l2 ∧ l2 < 4000 then some (B1 13 r1 62 l2, F1, B1) else none else (if l3 = 2 then if 0 ≤ l2 ∧ l2 < 4000 then some (B1 13 r1 63 l2, F1, B1) else none else (if l3 = 3 then if 0 ≤ l2 ∧ l2 < 4000 then f_M_stroke_89 K (B1 13 r1 64 l2) F1 B1 else none else f_M_stroke_89 K (-1) F1 B1)))) else none else f_M_stroke_33 K F1 B1) else none) else none) else none else none))
set_option maxHeartbeats 4000000 in
set_option maxRecDepth 100000 in
theorem c_M_stroke {l : Launch} {D : va_G} {ca : Nat → ClassId} {ad : Nat → Int → Nat → Nat} {L : List Nat} {aS vS : Nat → Nat} {sz K : Nat}  {l1 : Int} {l2 : Int} {l3 : Int} {F F9 : zF} {B B9 : zB} {r : Int} (hf : f_M_stroke K l1 l2 l3 F B = some (r, F9, B9)) : Met l ({ cls := "StaveHouseModel", name := "stroke", desc := "(III)I" } : Jvm.MethodName) (Cond.code ({ cls := "StaveHouseModel", name := "stroke", desc := "(III)I" } : Jvm.MethodName) prog_15_method_122_code 5 (Option.some Jvm.ClassFile.FieldType.int) :: wAll) ({ frames := 1, cells := 0, slots := 0, locals := 21 } : Room) (va_Pc [.ref (ad 14 0 0), .int (iI l1), .int (iI l2), .int (iI l3)] (zPre D ca ad lnM nM L aS vS F B sz)) (Q_M_stroke D ca ad L r F9 B9 (zA L sz)) 0 0 (zA L sz) := by
  refine zMet (Qc := Q_M_stroke D ca ad L r F9 B9) (lv := [(0, .ref (ad 14 0 0)), (1, .int (iI l1)), (2, .int (iI l2)), (3, .int (iI l3))]) (by decide) (Nat.le_of_ble_eq_true rfl) rfl (fun A p e s m below meth c ls X hZ hS hl => ?_)
  obtain ⟨hx, hb, hr, hml, hown, hts, hlk, hK, hA, hL, hX⟩ := id X
  replace hf : (zbind (f_M_piece K l1 F B) (fun r1 F1 B1 => (if r1 < 0 then f_M_stroke_33 K F1 B1 else if 0 ≤ r1 ∧ r1 < 3 then if r32 (F1 13 r1 53) then (if (F1 13 r1 53) = 0 then f_M_stroke_33 K F1 B1 else if r32 l2 then (if l2 < 0 then f_M_stroke_33 K F1 B1 else if r32 (F1 13 r1 60) then (if l2 < (F1 13 r1 60) then if r32 l3 then (if l3 = 0 then if 0 ≤ l2 ∧ l2 < 4000 then some (B1 13 r1 61 l2, F1, B1) else none else (if l3 = 1 then if 0 ≤ l2 ∧ l2 < 4000 then some (B1 13 r1 62 l2, F1, B1) else none else (if l3 = 2 then if 0 ≤ l2 ∧ l2 < 4000 then some (B1 13 r1 63 l2, F1, B1) else none else (if l3 = 3 then if 0 ≤ l2 ∧ l2 < 4000 then f_M_stroke_89 K (B1 13 r1 64 l2) F1 B1 else none else f_M_stroke_89 K (-1) F1 B1)))) else none else f_M_stroke_33 K F1 B1) else none) else none) else none else none))) = some (r, F9, B9) := hf
  refine lv_aload_n hx hb (D_42 W_prog_15_method_122_code_0 0 rfl rfl) rfl (lv_at hl 0 rfl) ?_
  refine lv_iload_n hx hb (D_27 W_prog_15_method_122_code_0 1 rfl rfl) rfl (lv_at hl 1 rfl) ?_
  obtain ⟨r1, F1, B1, hc1, hf⟩ := gbind hf
  refine va_callq (va_runV (As := [.int (iI l1)]) (rest := []) ⟨hx, hb, hml, hown, hts⟩ (c_M_piece (l := l) hc1) (cwV 1 hts (gdV k_12_92 k_12_94 ks_131 k_1_9 k_12_95) rfl rfl rfl (by decide +kernel) ⟨Nat.le_of_ble_eq_true rfl, Nat.le_of_ble_eq_true rfl⟩) (zPV X hZ hS (ci := 14) (by decide) (by decide) (r := (RX14, TX14, 107)) rfl [.int (iI l1)]) rfl rfl hl.1 rfl (lv_room (Nat.le_of_ble_eq_true rfl)) (D_182 W_prog_15_method_122_code_0 2 rfl rfl rfl) ⟨Nat.le_of_ble_eq_true rfl, Nat.le_of_ble_eq_true rfl⟩) hS (fun q _ h => zAin X hS q h) (zAin X hS) (fun p1 u1 t1 H1 locs1 ht1 hv1 hw1 hB1 hz1 hk1 hS1 => ?_)
  have hZ1 := zBack X ht1 hB1
  subst hw1
  refine zastore (lv' := [(0, .ref (ad 14 0 0)), (1, .int (iI l1)), (2, .int (iI l2)), (3, .int (iI l3))]) hx hb (D_58 W_prog_15_method_122_code_0 5 rfl rfl) hl (by decide) (fun _ _ => rfl) (fun ls hl => ?_)
  refine zaload hx hb (D_25 W_prog_15_method_122_code_0 7 rfl rfl) (lv_at hl 0 rfl) ?_
  refine zifnull (tgt := 33) hx hb (D_198 W_prog_15_method_122_code_0 9 rfl rfl rfl) (by decide) (fun h2 => ?_) (fun h2 => ?_)
  · replace hf := gpos hf h2
    exact b_M_stroke_33 X hf hZ1 hS1 (lv_sub hl [] rfl)
  · replace hf := gneg hf h2
    refine zaload hx hb (D_25 W_prog_15_method_122_code_0 12 rfl rfl) (lv_at hl 0 rfl) ?_
    obtain ⟨g3, hf⟩ := gif hf
    refine zunrf g3.1 ?_
    refine zget (ci := 13) (C := RX13) (T := TX13) (v := .int (iI (F1 13 r1 53))) (k := 53) hx hb hts inW_13 hown hK hZ1 g3.1 g3.2 rfl (by decide) k_9_221 rfl (D_180 W_prog_15_method_122_code_0 14 rfl rfl rfl) ?_
    obtain ⟨g4, hf⟩ := gif hf
    refine z0eq (tgt := 33) hx hb g4 (D_153 W_prog_15_method_122_code_0 17 rfl rfl rfl) (by decide) (fun h5 => ?_) (fun h5 => ?_)
    · replace hf := gpos hf h5
      exact b_M_stroke_33 X hf hZ1 hS1 (lv_sub hl [] rfl)
    · replace hf := gneg hf h5
      refine lv_iload_n hx hb (D_28 W_prog_15_method_122_code_0 20 rfl rfl) rfl (lv_at hl 3 rfl) ?_
      obtain ⟨g6, hf⟩ := gif hf
      refine z0lt (tgt := 33) hx hb g6 (D_155 W_prog_15_method_122_code_0 21 rfl rfl rfl) (by decide) (fun h7 => ?_) (fun h7 => ?_)
      · replace hf := gpos hf h7
        exact b_M_stroke_33 X hf hZ1 hS1 (lv_sub hl [] rfl)
      · replace hf := gneg hf h7
        refine lv_iload_n hx hb (D_28 W_prog_15_method_122_code_0 24 rfl rfl) rfl (lv_at hl 3 rfl) ?_
        refine zaload hx hb (D_25 W_prog_15_method_122_code_0 25 rfl rfl) (lv_at hl 0 rfl) ?_
        refine zunrf g3.1 ?_
        refine zget (ci := 13) (C := RX13) (T := TX13) (v := .int (iI (F1 13 r1 60))) (k := 60) hx hb hts inW_13 hown hK hZ1 g3.1 g3.2 rfl (by decide) k_9_233 rfl (D_180 W_prog_15_method_122_code_0 27 rfl rfl rfl) ?_
        obtain ⟨g8, hf⟩ := gif hf
        refine zlt (tgt := 35) hx hb g6 g8 (D_161 W_prog_15_method_122_code_0 30 rfl rfl rfl) (by decide) (fun h9 => ?_) (fun h9 => ?_)
        · replace hf := gpos hf h9
          refine lv_iload_n hx hb (D_29 W_prog_15_method_122_code_32 3 rfl rfl) rfl (lv_at hl 4 rfl) ?_
          obtain ⟨g10, hf⟩ := gif hf
          refine z0ne (tgt := 47) hx hb g10 (D_154 W_prog_15_method_122_code_32 4 rfl rfl rfl) (by decide) (fun h11 => ?_) (fun h11 => ?_)
          · replace hf := gneg hf h11
            refine lv_iload_n hx hb (D_29 W_prog_15_method_122_code_32 15 rfl rfl) rfl (lv_at hl 4 rfl) ?_
            refine lv_iconst (v := iI 1) hx hb (D_4 W_prog_15_method_122_code_32 16 rfl rfl) rfl ?_
            refine zne (tgt := 60) hx hb g10 (by decide) (D_160 W_prog_15_method_122_code_32 17 rfl rfl rfl) (by decide) (fun h12 => ?_) (fun h12 => ?_)
            · replace hf := gneg hf h12
              refine lv_iload_n hx hb (D_29 W_prog_15_method_122_code_32 28 rfl rfl) rfl (lv_at hl 4 rfl) ?_
              refine lv_iconst (v := iI 2) hx hb (D_5 W_prog_15_method_122_code_32 29 rfl rfl) rfl ?_
              refine zne (tgt := 73) hx hb g10 (by decide) (D_160 W_prog_15_method_122_code_32 30 rfl rfl rfl) (by decide) (fun h13 => ?_) (fun h13 => ?_)
              · replace hf := gneg hf h13
                refine lv_iload_n hx hb (D_29 W_prog_15_method_122_code_64 9 rfl rfl) rfl (lv_at hl 4 rfl) ?_
                refine lv_iconst (v := iI 3) hx hb (D_6 W_prog_15_method_122_code_64 10 rfl rfl) rfl ?_
                refine zne (tgt := 88) hx hb g10 (by decide) (D_160 W_prog_15_method_122_code_64 11 rfl rfl rfl) (by decide) (fun h14 => ?_) (fun h14 => ?_)
                · replace hf := gneg hf h14
                  refine lv_iconst (v := iI (-1)) hx hb (D_2 W_prog_15_method_122_code_64 24 rfl rfl) rfl ?_
                  exact b_M_stroke_89 X hf hZ1 hS1 (lv_sub hl [] rfl)
                · replace hf := gpos hf h14
                  refine zaload hx hb (D_25 W_prog_15_method_122_code_64 14 rfl rfl) (lv_at hl 0 rfl) ?_
                  refine zunrf g3.1 ?_
                  refine zget (ci := 13) (C := RX13) (T := TX13) (v := .ref (ad 13 r1 (64 + 1))) (k := 64) hx hb hts inW_13 hown hK hZ1 g3.1 g3.2 rfl (by decide) k_10_1 rfl (D_180 W_prog_15_method_122_code_64 16 rfl rfl rfl) ?_
                  refine lv_iload_n hx hb (D_28 W_prog_15_method_122_code_64 19 rfl rfl) rfl (lv_at hl 3 rfl) ?_
                  obtain ⟨g15, hf⟩ := gif hf
                  refine zald (ci := 13) (k := 64) hx hb hK rfl hZ1 g3.1 g3.2 rfl (Nat.le_of_ble_eq_true rfl) g15.1 g15.2 (D_46 W_prog_15_method_122_code_64 20 rfl rfl) ?_
                  refine lv_goto (tgt := 89) hx hb (D_167 W_prog_15_method_122_code_64 21 rfl rfl rfl) (by decide) ?_
                  exact b_M_stroke_89 X hf hZ1 hS1 (lv_sub hl [] rfl)
              · replace hf := gpos hf h13
                refine zaload hx hb (D_25 W_prog_15_method_122_code_64 1 rfl rfl) (lv_at hl 0 rfl) ?_
                refine zunrf g3.1 ?_
                refine zget (ci := 13) (C := RX13) (T := TX13) (v := .ref (ad 13 r1 (63 + 1))) (k := 63) hx hb hts inW_13 hown hK hZ1 g3.1 g3.2 rfl (by decide) k_9_239 rfl (D_180 W_prog_15_method_122_code_64 3 rfl rfl rfl) ?_
                refine lv_iload_n hx hb (D_28 W_prog_15_method_122_code_64 6 rfl rfl) rfl (lv_at hl 3 rfl) ?_
                obtain ⟨g16, hf⟩ := gif hf
                refine zald (ci := 13) (k := 63) hx hb hK rfl hZ1 g3.1 g3.2 rfl (Nat.le_of_ble_eq_true rfl) g16.1 g16.2 (D_46 W_prog_15_method_122_code_64 7 rfl rfl) ?_
                cases hf
                exact W.iret hx hb hr (fun t ht hW => ⟨⟨_, (), rfl, rfl, by rw [ht]; exact hZ1, va_K.moved hW.alike hK⟩, hS1.F ht⟩) hS1.2.2 (D_172 W_prog_15_method_122_code_64 8 rfl rfl) hlk
            · replace hf := gpos hf h12
              refine zaload hx hb (D_25 W_prog_15_method_122_code_32 20 rfl rfl) (lv_at hl 0 rfl) ?_
              refine zunrf g3.1 ?_
              refine zget (ci := 13) (C := RX13) (T := TX13) (v := .ref (ad 13 r1 (62 + 1))) (k := 62) hx hb hts inW_13 hown hK hZ1 g3.1 g3.2 rfl (by decide) k_9_237 rfl (D_180 W_prog_15_method_122_code_32 22 rfl rfl rfl) ?_
              refine lv_iload_n hx hb (D_28 W_prog_15_method_122_code_32 25 rfl rfl) rfl (lv_at hl 3 rfl) ?_
              obtain ⟨g17, hf⟩ := gif hf
              refine zald (ci := 13) (k := 62) hx hb hK rfl hZ1 g3.1 g3.2 rfl (Nat.le_of_ble_eq_true rfl) g17.1 g17.2 (D_46 W_prog_15_method_122_code_32 26 rfl rfl) ?_
              cases hf
              exact W.iret hx hb hr (fun t ht hW => ⟨⟨_, (), rfl, rfl, by rw [ht]; exact hZ1, va_K.moved hW.alike hK⟩, hS1.F ht⟩) hS1.2.2 (D_172 W_prog_15_method_122_code_32 27 rfl rfl) hlk
          · replace hf := gpos hf h11
            refine zaload hx hb (D_25 W_prog_15_method_122_code_32 7 rfl rfl) (lv_at hl 0 rfl) ?_
            refine zunrf g3.1 ?_
            refine zget (ci := 13) (C := RX13) (T := TX13) (v := .ref (ad 13 r1 (61 + 1))) (k := 61) hx hb hts inW_13 hown hK hZ1 g3.1 g3.2 rfl (by decide) k_9_235 rfl (D_180 W_prog_15_method_122_code_32 9 rfl rfl rfl) ?_
            refine lv_iload_n hx hb (D_28 W_prog_15_method_122_code_32 12 rfl rfl) rfl (lv_at hl 3 rfl) ?_
            obtain ⟨g18, hf⟩ := gif hf
            refine zald (ci := 13) (k := 61) hx hb hK rfl hZ1 g3.1 g3.2 rfl (Nat.le_of_ble_eq_true rfl) g18.1 g18.2 (D_46 W_prog_15_method_122_code_32 13 rfl rfl) ?_
            cases hf
            exact W.iret hx hb hr (fun t ht hW => ⟨⟨_, (), rfl, rfl, by rw [ht]; exact hZ1, va_K.moved hW.alike hK⟩, hS1.F ht⟩) hS1.2.2 (D_172 W_prog_15_method_122_code_32 14 rfl rfl) hlk
        · replace hf := gneg hf h9
          exact b_M_stroke_33 X hf hZ1 hS1 (lv_sub hl [] rfl)

abbrev Q_M_put_0 (D : va_G) (ca : Nat → ClassId) (ad : Nat → Int → Nat → Nat) (L : List Nat) (r : Int) (F : zF) (B : zB) (A : Nat → Prop) : Array Value → State → Outcome → State → Prop := va_Qv (S := Unit) (fun _ => True) (fun _ => zPo D ca ad lnM nM L F B A) A
def f_M_put_0_20 (K : Nat)  (F : zF) (B : zB) : zO := some (0, (zup3 F 14 0 71 ((F 14 0 71) + 1)), B)
set_option maxHeartbeats 4000000 in
set_option maxRecDepth 100000 in
theorem b_M_put_0_20 {D : va_G} {ca : Nat → ClassId} {ad : Nat → Int → Nat → Nat} {L : List Nat} {aS vS : Nat → Nat} {A : Nat → Prop} {p : Program} {l : Launch} {e : Env} {s : State} {m : MethodId} {args : Array Value} {below : List Frame} {meth : Method} {c : Code} {K : Nat} {r : Int} {F9 : zF} {B9 : zB} (X : zX D ca L aS vS A p s m args meth c prog_15_method_123_code 2 (Option.none : Option Jvm.ClassFile.FieldType) "StaveHouseModel")  {F : zF} {B : zB} {H : Heap} {locs : List Loc} {ls : Array Slot} (hf : f_M_put_0_20 K  F B = some (r, F9, B9)) (hZ : zH D ca ad lnM nM L F B A H) (hS : va_S A s.heap H locs) (hl : lv_has ls 2 [(0, .ref (ad 14 0 0))]) : W p l e ({ frames := 0, cells := 0, slots := 0, locals := 0 } : Room) s m args below meth c H locs 0 0 (MQ below (Q_M_put_0 D ca ad L r F9 B9 A) args s 0 0 A) (F0 m 20 ls []) := by
  obtain ⟨hx, hb, hr, hml, hown, hts, hlk, hK, hA, hL, hX⟩ := id X
  replace hf : (some (0, (zup3 F 14 0 71 ((F 14 0 71) + 1)), B)) = some (r, F9, B9) := hf
  refine lv_aload_n hx hb (D_42 W_prog_15_method_123_code_0 20 rfl rfl) rfl (lv_at hl 0 rfl) ?_
  refine lv_dup hx hb (D_89 W_prog_15_method_123_code_0 21 rfl rfl) rfl ?_
  refine zget (ci := 14) (C := RX14) (T := TX14) (v := .int (iI (F 14 0 71))) (k := 71) hx hb hts inW_14 hown hK hZ (by decide) (by decide) rfl (by decide) k_11_69 rfl (D_180 W_prog_15_method_123_code_0 22 rfl rfl rfl) ?_
  refine lv_iconst (v := iI 1) hx hb (D_4 W_prog_15_method_123_code_0 25 rfl rfl) rfl ?_
  refine zadd hx hb (D_96 W_prog_15_method_123_code_0 26 rfl rfl) ?_
  refine zput (ci := 14) (C := RX14) (T := TX14) (k := 71) (v := ((F 14 0 71) + 1)) (w := .int (iI ((F 14 0 71) + 1))) hx hb hts inW_14 tyX14 tyX14_ok nmX14 hown hK hZ hS (by decide) (by decide) rfl (by decide) k_11_69 rfl (fun G h => congrArg (fun q => Value.int (iI q)) h) rfl rfl (zno (by decide)) (D_181 W_prog_15_method_123_code_0 27 rfl rfl rfl) (fun H5 locs5 hZ5 hS5 => ?_)
  cases hf
  exact W.vret hx hb hr (fun t ht hW => ⟨⟨(), rfl, trivial, by rw [ht]; exact hZ5, va_K.moved hW.alike hK⟩, hS5.F ht⟩) hS5.2.2 (D_177 W_prog_15_method_123_code_0 30 rfl rfl) hlk

def f_M_put_0 (K : Nat) (l1 : Int) (F : zF) (B : zB) : zO := if r32 (F 14 0 71) then (if 40000 ≤ (F 14 0 71) then f_M_put_0_20 K F B else if 0 ≤ (F 14 0 71) ∧ (F 14 0 71) < 40000 then f_M_put_0_20 K F (zup4 B 14 0 70 (F 14 0 71) (zi2b (zi2b l1))) else none) else none
set_option maxHeartbeats 4000000 in
set_option maxRecDepth 100000 in
theorem c_M_put_0 {l : Launch} {D : va_G} {ca : Nat → ClassId} {ad : Nat → Int → Nat → Nat} {L : List Nat} {aS vS : Nat → Nat} {sz K : Nat}  {l1 : Int} {F F9 : zF} {B B9 : zB} {r : Int} (hf : f_M_put_0 K l1 F B = some (r, F9, B9)) : Met l ({ cls := "StaveHouseModel", name := "put", desc := "(I)V" } : Jvm.MethodName) (Cond.code ({ cls := "StaveHouseModel", name := "put", desc := "(I)V" } : Jvm.MethodName) prog_15_method_123_code 2 (Option.none : Option Jvm.ClassFile.FieldType) :: wAll) ({ frames := 0, cells := 0, slots := 0, locals := 0 } : Room) (va_Pc [.ref (ad 14 0 0), .int (iI l1)] (zPre D ca ad lnM nM L aS vS F B sz)) (Q_M_put_0 D ca ad L r F9 B9 (zA L sz)) 0 0 (zA L sz) := by
  refine zMet (Qc := Q_M_put_0 D ca ad L r F9 B9) (lv := [(0, .ref (ad 14 0 0)), (1, .int (iI l1))]) (by decide) (Nat.le_of_ble_eq_true rfl) rfl (fun A p e s m below meth c ls X hZ hS hl => ?_)
  obtain ⟨hx, hb, hr, hml, hown, hts, hlk, hK, hA, hL, hX⟩ := id X
  replace hf : (if r32 (F 14 0 71) then (if 40000 ≤ (F 14 0 71) then f_M_put_0_20 K F B else if 0 ≤ (F 14 0 71) ∧ (F 14 0 71) < 40000 then f_M_put_0_20 K F (zup4 B 14 0 70 (F 14 0 71) (zi2b (zi2b l1))) else none) else none) = some (r, F9, B9) := hf
  refine lv_aload_n hx hb (D_42 W_prog_15_method_123_code_0 0 rfl rfl) rfl (lv_at hl 0 rfl) ?_
  refine zget (ci := 14) (C := RX14) (T := TX14) (v := .int (iI (F 14 0 71))) (k := 71) hx hb hts inW_14 hown hK hZ (by decide) (by decide) rfl (by decide) k_11_69 rfl (D_180 W_prog_15_method_123_code_0 1 rfl rfl rfl) ?_
  refine lv_ldc hx hb hown (hts _ k_10_237) (D_18 W_prog_15_method_123_code_0 4 rfl rfl) ?_
  refine W.eq (g2 := F0 m 6 ls [.int (iI 40000), .int (iI (F 14 0 71))]) rfl ?_
  obtain ⟨g1, hf⟩ := gif hf
  refine zge (tgt := 20) hx hb g1 (by decide) (D_162 W_prog_15_method_123_code_0 6 rfl rfl rfl) (by decide) (fun h2 => ?_) (fun h2 => ?_)
  · replace hf := gpos hf h2
    exact b_M_put_0_20 X hf hZ hS (lv_sub hl [0] rfl)
  · replace hf := gneg hf h2
    refine lv_aload_n hx hb (D_42 W_prog_15_method_123_code_0 9 rfl rfl) rfl (lv_at hl 0 rfl) ?_
    refine zget (ci := 14) (C := RX14) (T := TX14) (v := .ref (ad 14 0 (70 + 1))) (k := 70) hx hb hts inW_14 hown hK hZ (by decide) (by decide) rfl (by decide) k_11_68 rfl (D_180 W_prog_15_method_123_code_0 10 rfl rfl rfl) ?_
    refine lv_aload_n hx hb (D_42 W_prog_15_method_123_code_0 13 rfl rfl) rfl (lv_at hl 0 rfl) ?_
    refine zget (ci := 14) (C := RX14) (T := TX14) (v := .int (iI (F 14 0 71))) (k := 71) hx hb hts inW_14 hown hK hZ (by decide) (by decide) rfl (by decide) k_11_69 rfl (D_180 W_prog_15_method_123_code_0 14 rfl rfl rfl) ?_
    refine lv_iload_n hx hb (D_27 W_prog_15_method_123_code_0 17 rfl rfl) rfl (lv_at hl 1 rfl) ?_
    refine zi2b_r hx hb (D_145 W_prog_15_method_123_code_0 18 rfl rfl) ?_
    obtain ⟨g3, hf⟩ := gif hf
    refine zbast (ci := 14) (k := 70) hx hb hK rfl hZ hS (by decide) (by decide) rfl (Nat.le_of_ble_eq_true rfl) g3.1 g3.2 (D_84 W_prog_15_method_123_code_0 19 rfl rfl) (fun H4 locs4 hZ4 hS4 => ?_)
    exact b_M_put_0_20 X hf hZ4 hS4 (lv_sub hl [0] rfl)

abbrev Q_M_four (D : va_G) (ca : Nat → ClassId) (ad : Nat → Int → Nat → Nat) (L : List Nat) (r : Int) (F : zF) (B : zB) (A : Nat → Prop) : Array Value → State → Outcome → State → Prop := va_Qv (S := Unit) (fun _ => True) (fun _ => zPo D ca ad lnM nM L F B A) A
def f_M_four_3 (K : Nat) : Nat → Int → Int → zF → zB → zO
  | 0, _, _, _, _ => none
  | n + 1, l2, l1, F, B => if r32 l2 then (if l2 < 0 then some (0, F, B) else zbind (f_M_put_0 K (zand (zshr l1 l2) 255) F B) (fun r3 F3 B3 => f_M_four_3 K n (l2 - 8) l1 F3 B3)) else none
set_option maxHeartbeats 4000000 in
set_option maxRecDepth 100000 in
theorem b_M_four_3 {D : va_G} {ca : Nat → ClassId} {ad : Nat → Int → Nat → Nat} {L : List Nat} {aS vS : Nat → Nat} {A : Nat → Prop} {p : Program} {l : Launch} {e : Env} {s : State} {m : MethodId} {args : Array Value} {below : List Frame} {meth : Method} {c : Code} {K : Nat} {r : Int} {F9 : zF} {B9 : zB} (X : zX D ca L aS vS A p s m args meth c prog_15_method_127_code 3 (Option.none : Option Jvm.ClassFile.FieldType) "StaveHouseModel") : ∀ {n : Nat} {l2 : Int} {l1 : Int} {F : zF} {B : zB} {H : Heap} {locs : List Loc} {ls : Array Slot}, f_M_four_3 K n l2 l1 F B = some (r, F9, B9) → zH D ca ad lnM nM L F B A H → va_S A s.heap H locs → lv_has ls 3 [(2, .int (iI l2)), (0, .ref (ad 14 0 0)), (1, .int (iI l1))] → W p l e ({ frames := 1, cells := 0, slots := 0, locals := 21 } : Room) s m args below meth c H locs 0 0 (MQ below (Q_M_four D ca ad L r F9 B9 A) args s 0 0 A) (F0 m 3 ls []) := by
  obtain ⟨hx, hb, hr, hml, hown, hts, hlk, hK, hA, hL, hX⟩ := id X
  intro n
  induction n with
  | zero =>
    intros
    rename_i hf _ _ _
    cases hf
  | succ n ih =>
    intro l2 l1 F B H locs ls hf hZ hS hl
    replace hf : (if r32 l2 then (if l2 < 0 then some (0, F, B) else zbind (f_M_put_0 K (zand (zshr l1 l2) 255) F B) (fun r3 F3 B3 => f_M_four_3 K n (l2 - 8) l1 F3 B3)) else none) = some (r, F9, B9) := hf
    refine lv_iload_n hx hb (D_28 W_prog_15_method_127_code_0 3 rfl rfl) rfl (lv_at hl 0 rfl) ?_
    obtain ⟨g1, hf⟩ := gif hf
    refine z0lt (tgt := 24) hx hb g1 (D_155 W_prog_15_method_127_code_0 4 rfl rfl rfl) (by decide) (fun h2 => ?_) (fun h2 => ?_)
    · replace hf := gpos hf h2
      cases hf
      exact W.vret hx hb hr (fun t ht hW => ⟨⟨(), rfl, trivial, by rw [ht]; exact hZ, va_K.moved hW.alike hK⟩, hS.F ht⟩) hS.2.2 (D_177 W_prog_15_method_127_code_0 24 rfl rfl) hlk
    · replace hf := gneg hf h2
      refine lv_aload_n hx hb (D_42 W_prog_15_method_127_code_0 7 rfl rfl) rfl (lv_at hl 1 rfl) ?_
      refine lv_iload_n hx hb (D_27 W_prog_15_method_127_code_0 8 rfl rfl) rfl (lv_at hl 2 rfl) ?_
      refine lv_iload_n hx hb (D_28 W_prog_15_method_127_code_0 9 rfl rfl) rfl (lv_at hl 0 rfl) ?_
      refine zshr_r hx hb (D_122 W_prog_15_method_127_code_0 10 rfl rfl) ?_
      refine lv_sipush (v := iI 255) hx hb (D_17 W_prog_15_method_127_code_0 11 rfl rfl rfl) (by decide) ?_
      refine zand_r hx hb (D_126 W_prog_15_method_127_code_0 14 rfl rfl) ?_
      obtain ⟨r3, F3, B3, hc3, hf⟩ := gbind hf
      refine va_callv (va_runV (As := [.int (iI (zand (zshr l1 l2) 255))]) (rest := []) ⟨hx, hb, hml, hown, hts⟩ (c_M_put_0 (l := l) hc3) (cwV 1 hts (gdV k_12_199 k_12_201 ks_142 k_1_9 k_12_202) rfl rfl rfl (by decide +kernel) ⟨Nat.le_of_ble_eq_true rfl, Nat.le_of_ble_eq_true rfl⟩) (zPV X hZ hS (ci := 14) (by decide) (by decide) (r := (RX14, TX14, 107)) rfl [.int (iI (zand (zshr l1 l2) 255))]) rfl rfl hl.1 rfl (lv_room (Nat.le_of_ble_eq_true rfl)) (D_182 W_prog_15_method_127_code_0 15 rfl rfl rfl) ⟨Nat.le_of_ble_eq_true rfl, Nat.le_of_ble_eq_true rfl⟩) hS (fun q _ h => zAin X hS q h) (zAin X hS) (fun u3 t3 H3 locs3 ht3 hv3 hw3 hB3 hz3 hk3 hS3 => ?_)
      have hZ3 := zBack X ht3 hB3
      refine lv_iinc (v := iI (l2 - 8)) (lv' := [(2, .int (iI (l2 - 8))), (0, .ref (ad 14 0 0)), (1, .int (iI l1))]) hx hb d_15_127_18 hl (k := 0) rfl (by rw [show Int32.ofInt (-8) = iI (-8) from rfl, iI_add]; congr 1) (by decide) rfl (fun ls hl => ?_)
      refine lv_goto (tgt := 3) hx hb (D_167 W_prog_15_method_127_code_0 21 rfl rfl rfl) (by decide) ?_
      exact ih hf hZ3 hS3 (lv_sub hl [0, 1, 2] rfl)

def f_M_four (K : Nat) (l1 : Int) (F : zF) (B : zB) : zO := f_M_four_3 K K 24 l1 F B
set_option maxHeartbeats 4000000 in
set_option maxRecDepth 100000 in
theorem c_M_four {l : Launch} {D : va_G} {ca : Nat → ClassId} {ad : Nat → Int → Nat → Nat} {L : List Nat} {aS vS : Nat → Nat} {sz K : Nat}  {l1 : Int} {F F9 : zF} {B B9 : zB} {r : Int} (hf : f_M_four K l1 F B = some (r, F9, B9)) : Met l ({ cls := "StaveHouseModel", name := "four", desc := "(I)V" } : Jvm.MethodName) (Cond.code ({ cls := "StaveHouseModel", name := "four", desc := "(I)V" } : Jvm.MethodName) prog_15_method_127_code 3 (Option.none : Option Jvm.ClassFile.FieldType) :: wAll) ({ frames := 1, cells := 0, slots := 0, locals := 21 } : Room) (va_Pc [.ref (ad 14 0 0), .int (iI l1)] (zPre D ca ad lnM nM L aS vS F B sz)) (Q_M_four D ca ad L r F9 B9 (zA L sz)) 0 0 (zA L sz) := by
  refine zMet (Qc := Q_M_four D ca ad L r F9 B9) (lv := [(0, .ref (ad 14 0 0)), (1, .int (iI l1))]) (by decide) (Nat.le_of_ble_eq_true rfl) rfl (fun A p e s m below meth c ls X hZ hS hl => ?_)
  obtain ⟨hx, hb, hr, hml, hown, hts, hlk, hK, hA, hL, hX⟩ := id X
  replace hf : (f_M_four_3 K K 24 l1 F B) = some (r, F9, B9) := hf
  refine lv_bipush (v := iI 24) hx hb (D_16 W_prog_15_method_127_code_0 0 rfl rfl rfl) (by decide) ?_
  refine lv_istore_n (lv' := [(2, .int (iI 24)), (0, .ref (ad 14 0 0)), (1, .int (iI l1))]) hx hb (D_61 W_prog_15_method_127_code_0 2 rfl rfl) rfl hl (by decide) rfl (fun ls hl => ?_)
  exact b_M_four_3 X hf hZ hS (lv_sub hl [0, 1, 2] rfl)

abbrev Q_M_endTrack (D : va_G) (ca : Nat → ClassId) (ad : Nat → Int → Nat → Nat) (L : List Nat) (r : Int) (F : zF) (B : zB) (A : Nat → Prop) : Array Value → State → Outcome → State → Prop := va_Qv (S := Unit) (fun _ => True) (fun _ => zPo D ca ad lnM nM L F B A) A
def f_M_endTrack_32 (K : Nat) : Nat → Int → Int → Int → zF → zB → zO
  | 0, _, _, _, _, _ => none
  | n + 1, l3, l2, l1, F, B => if r32 l3 then (if 4 ≤ l3 then some (0, F, B) else if 0 ≤ ((l1 - 4) + l3) ∧ ((l1 - 4) + l3) < 40000 then f_M_endTrack_32 K n (l3 + 1) l2 l1 F (zup4 B 14 0 70 ((l1 - 4) + l3) (zi2b (zi2b (zshr l2 (24 - (8 * l3)))))) else none) else none
set_option maxHeartbeats 4000000 in
set_option maxRecDepth 100000 in
theorem b_M_endTrack_32 {D : va_G} {ca : Nat → ClassId} {ad : Nat → Int → Nat → Nat} {L : List Nat} {aS vS : Nat → Nat} {A : Nat → Prop} {p : Program} {l : Launch} {e : Env} {s : State} {m : MethodId} {args : Array Value} {below : List Frame} {meth : Method} {c : Code} {K : Nat} {r : Int} {F9 : zF} {B9 : zB} (X : zX D ca L aS vS A p s m args meth c prog_15_method_131_code 4 (Option.none : Option Jvm.ClassFile.FieldType) "StaveHouseModel") : ∀ {n : Nat} {l3 : Int} {l2 : Int} {l1 : Int} {F : zF} {B : zB} {H : Heap} {locs : List Loc} {ls : Array Slot}, f_M_endTrack_32 K n l3 l2 l1 F B = some (r, F9, B9) → zH D ca ad lnM nM L F B A H → va_S A s.heap H locs → lv_has ls 4 [(3, .int (iI l3)), (2, .int (iI l2)), (0, .ref (ad 14 0 0)), (1, .int (iI l1))] → W p l e ({ frames := 1, cells := 0, slots := 0, locals := 21 } : Room) s m args below meth c H locs 0 0 (MQ below (Q_M_endTrack D ca ad L r F9 B9 A) args s 0 0 A) (F0 m 32 ls []) := by
  obtain ⟨hx, hb, hr, hml, hown, hts, hlk, hK, hA, hL, hX⟩ := id X
  intro n
  induction n with
  | zero =>
    intros
    rename_i hf _ _ _
    cases hf
  | succ n ih =>
    intro l3 l2 l1 F B H locs ls hf hZ hS hl
    replace hf : (if r32 l3 then (if 4 ≤ l3 then some (0, F, B) else if 0 ≤ ((l1 - 4) + l3) ∧ ((l1 - 4) + l3) < 40000 then f_M_endTrack_32 K n (l3 + 1) l2 l1 F (zup4 B 14 0 70 ((l1 - 4) + l3) (zi2b (zi2b (zshr l2 (24 - (8 * l3)))))) else none) else none) = some (r, F9, B9) := hf
    refine lv_iload_n hx hb (D_29 W_prog_15_method_131_code_32 0 rfl rfl) rfl (lv_at hl 0 rfl) ?_
    refine lv_iconst (v := iI 4) hx hb (D_7 W_prog_15_method_131_code_32 1 rfl rfl) rfl ?_
    obtain ⟨g5, hf⟩ := gif hf
    refine zge (tgt := 63) hx hb g5 (by decide) (D_162 W_prog_15_method_131_code_32 2 rfl rfl rfl) (by decide) (fun h6 => ?_) (fun h6 => ?_)
    · replace hf := gpos hf h6
      cases hf
      exact W.vret hx hb hr (fun t ht hW => ⟨⟨(), rfl, trivial, by rw [ht]; exact hZ, va_K.moved hW.alike hK⟩, hS.F ht⟩) hS.2.2 (D_177 W_prog_15_method_131_code_32 31 rfl rfl) hlk
    · replace hf := gneg hf h6
      refine lv_aload_n hx hb (D_42 W_prog_15_method_131_code_32 5 rfl rfl) rfl (lv_at hl 2 rfl) ?_
      refine zget (ci := 14) (C := RX14) (T := TX14) (v := .ref (ad 14 0 (70 + 1))) (k := 70) hx hb hts inW_14 hown hK hZ (by decide) (by decide) rfl (by decide) k_11_68 rfl (D_180 W_prog_15_method_131_code_32 6 rfl rfl rfl) ?_
      refine lv_iload_n hx hb (D_27 W_prog_15_method_131_code_32 9 rfl rfl) rfl (lv_at hl 3 rfl) ?_
      refine lv_iconst (v := iI 4) hx hb (D_7 W_prog_15_method_131_code_32 10 rfl rfl) rfl ?_
      refine zsub hx hb (D_100 W_prog_15_method_131_code_32 11 rfl rfl) ?_
      refine lv_iload_n hx hb (D_29 W_prog_15_method_131_code_32 12 rfl rfl) rfl (lv_at hl 0 rfl) ?_
      refine zadd hx hb (D_96 W_prog_15_method_131_code_32 13 rfl rfl) ?_
      refine lv_iload_n hx hb (D_28 W_prog_15_method_131_code_32 14 rfl rfl) rfl (lv_at hl 1 rfl) ?_
      refine lv_bipush (v := iI 24) hx hb (D_16 W_prog_15_method_131_code_32 15 rfl rfl rfl) (by decide) ?_
      refine lv_bipush (v := iI 8) hx hb (D_16 W_prog_15_method_131_code_32 17 rfl rfl rfl) (by decide) ?_
      refine lv_iload_n hx hb (D_29 W_prog_15_method_131_code_32 19 rfl rfl) rfl (lv_at hl 0 rfl) ?_
      refine zmul hx hb (D_104 W_prog_15_method_131_code_32 20 rfl rfl) ?_
      refine zsub hx hb (D_100 W_prog_15_method_131_code_32 21 rfl rfl) ?_
      refine zshr_r hx hb (D_122 W_prog_15_method_131_code_32 22 rfl rfl) ?_
      refine zi2b_r hx hb (D_145 W_prog_15_method_131_code_32 23 rfl rfl) ?_
      obtain ⟨g7, hf⟩ := gif hf
      refine zbast (ci := 14) (k := 70) hx hb hK rfl hZ hS (by decide) (by decide) rfl (Nat.le_of_ble_eq_true rfl) g7.1 g7.2 (D_84 W_prog_15_method_131_code_32 24 rfl rfl) (fun H8 locs8 hZ8 hS8 => ?_)
      refine lv_iinc (v := iI (l3 + 1)) (lv' := [(3, .int (iI (l3 + 1))), (2, .int (iI l2)), (0, .ref (ad 14 0 0)), (1, .int (iI l1))]) hx hb d_15_131_57 hl (k := 0) rfl (iI_add _ 1) (by decide) rfl (fun ls hl => ?_)
      refine lv_goto (tgt := 32) hx hb (D_167 W_prog_15_method_131_code_32 28 rfl rfl rfl) (by decide) ?_
      exact ih hf hZ8 hS8 (lv_sub hl [0, 1, 2, 3] rfl)

def f_M_endTrack (K : Nat) (l1 : Int) (F : zF) (B : zB) : zO := zbind (f_M_put_0 K 0 F B) (fun r1 F1 B1 => zbind (f_M_put_0 K 255 F1 B1) (fun r2 F2 B2 => zbind (f_M_put_0 K 47 F2 B2) (fun r3 F3 B3 => zbind (f_M_put_0 K 0 F3 B3) (fun r4 F4 B4 => f_M_endTrack_32 K K 0 ((F4 14 0 71) - l1) l1 F4 B4))))
set_option maxHeartbeats 4000000 in
set_option maxRecDepth 100000 in
theorem c_M_endTrack {l : Launch} {D : va_G} {ca : Nat → ClassId} {ad : Nat → Int → Nat → Nat} {L : List Nat} {aS vS : Nat → Nat} {sz K : Nat}  {l1 : Int} {F F9 : zF} {B B9 : zB} {r : Int} (hf : f_M_endTrack K l1 F B = some (r, F9, B9)) : Met l ({ cls := "StaveHouseModel", name := "endTrack", desc := "(I)V" } : Jvm.MethodName) (Cond.code ({ cls := "StaveHouseModel", name := "endTrack", desc := "(I)V" } : Jvm.MethodName) prog_15_method_131_code 4 (Option.none : Option Jvm.ClassFile.FieldType) :: wAll) ({ frames := 1, cells := 0, slots := 0, locals := 21 } : Room) (va_Pc [.ref (ad 14 0 0), .int (iI l1)] (zPre D ca ad lnM nM L aS vS F B sz)) (Q_M_endTrack D ca ad L r F9 B9 (zA L sz)) 0 0 (zA L sz) := by
  refine zMet (Qc := Q_M_endTrack D ca ad L r F9 B9) (lv := [(0, .ref (ad 14 0 0)), (1, .int (iI l1))]) (by decide) (Nat.le_of_ble_eq_true rfl) rfl (fun A p e s m below meth c ls X hZ hS hl => ?_)
  obtain ⟨hx, hb, hr, hml, hown, hts, hlk, hK, hA, hL, hX⟩ := id X
  replace hf : (zbind (f_M_put_0 K 0 F B) (fun r1 F1 B1 => zbind (f_M_put_0 K 255 F1 B1) (fun r2 F2 B2 => zbind (f_M_put_0 K 47 F2 B2) (fun r3 F3 B3 => zbind (f_M_put_0 K 0 F3 B3) (fun r4 F4 B4 => f_M_endTrack_32 K K 0 ((F4 14 0 71) - l1) l1 F4 B4))))) = some (r, F9, B9) := hf
  refine lv_aload_n hx hb (D_42 W_prog_15_method_131_code_0 0 rfl rfl) rfl (lv_at hl 0 rfl) ?_
  refine lv_iconst (v := iI 0) hx hb (D_3 W_prog_15_method_131_code_0 1 rfl rfl) rfl ?_
  obtain ⟨r1, F1, B1, hc1, hf⟩ := gbind hf
  refine va_callv (va_runV (As := [.int (iI 0)]) (rest := []) ⟨hx, hb, hml, hown, hts⟩ (c_M_put_0 (l := l) hc1) (cwV 1 hts (gdV k_12_199 k_12_201 ks_142 k_1_9 k_12_202) rfl rfl rfl (by decide +kernel) ⟨Nat.le_of_ble_eq_true rfl, Nat.le_of_ble_eq_true rfl⟩) (zPV X hZ hS (ci := 14) (by decide) (by decide) (r := (RX14, TX14, 107)) rfl [.int (iI 0)]) rfl rfl hl.1 rfl (lv_room (Nat.le_of_ble_eq_true rfl)) (D_182 W_prog_15_method_131_code_0 2 rfl rfl rfl) ⟨Nat.le_of_ble_eq_true rfl, Nat.le_of_ble_eq_true rfl⟩) hS (fun q _ h => zAin X hS q h) (zAin X hS) (fun u1 t1 H1 locs1 ht1 hv1 hw1 hB1 hz1 hk1 hS1 => ?_)
  have hZ1 := zBack X ht1 hB1
  refine lv_aload_n hx hb (D_42 W_prog_15_method_131_code_0 5 rfl rfl) rfl (lv_at hl 0 rfl) ?_
  refine lv_sipush (v := iI 255) hx hb (D_17 W_prog_15_method_131_code_0 6 rfl rfl rfl) (by decide) ?_
  obtain ⟨r2, F2, B2, hc2, hf⟩ := gbind hf
  refine va_callv (va_runV (As := [.int (iI 255)]) (rest := []) ⟨hx, hb, hml, hown, hts⟩ (c_M_put_0 (l := l) hc2) (cwV 1 hts (gdV k_12_199 k_12_201 ks_142 k_1_9 k_12_202) rfl rfl rfl (by decide +kernel) ⟨Nat.le_of_ble_eq_true rfl, Nat.le_of_ble_eq_true rfl⟩) (zPV X hZ1 hS1 (ci := 14) (by decide) (by decide) (r := (RX14, TX14, 107)) rfl [.int (iI 255)]) rfl rfl hl.1 rfl (lv_room (Nat.le_of_ble_eq_true rfl)) (D_182 W_prog_15_method_131_code_0 9 rfl rfl rfl) ⟨Nat.le_of_ble_eq_true rfl, Nat.le_of_ble_eq_true rfl⟩) hS1 (fun q _ h => zAin X hS1 q h) (zAin X hS1) (fun u2 t2 H2 locs2 ht2 hv2 hw2 hB2 hz2 hk2 hS2 => ?_)
  have hZ2 := zBack X ht2 hB2
  refine lv_aload_n hx hb (D_42 W_prog_15_method_131_code_0 12 rfl rfl) rfl (lv_at hl 0 rfl) ?_
  refine lv_bipush (v := iI 47) hx hb (D_16 W_prog_15_method_131_code_0 13 rfl rfl rfl) (by decide) ?_
  obtain ⟨r3, F3, B3, hc3, hf⟩ := gbind hf
  refine va_callv (va_runV (As := [.int (iI 47)]) (rest := []) ⟨hx, hb, hml, hown, hts⟩ (c_M_put_0 (l := l) hc3) (cwV 1 hts (gdV k_12_199 k_12_201 ks_142 k_1_9 k_12_202) rfl rfl rfl (by decide +kernel) ⟨Nat.le_of_ble_eq_true rfl, Nat.le_of_ble_eq_true rfl⟩) (zPV X hZ2 hS2 (ci := 14) (by decide) (by decide) (r := (RX14, TX14, 107)) rfl [.int (iI 47)]) rfl rfl hl.1 rfl (lv_room (Nat.le_of_ble_eq_true rfl)) (D_182 W_prog_15_method_131_code_0 15 rfl rfl rfl) ⟨Nat.le_of_ble_eq_true rfl, Nat.le_of_ble_eq_true rfl⟩) hS2 (fun q _ h => zAin X hS2 q h) (zAin X hS2) (fun u3 t3 H3 locs3 ht3 hv3 hw3 hB3 hz3 hk3 hS3 => ?_)
  have hZ3 := zBack X ht3 hB3
  refine lv_aload_n hx hb (D_42 W_prog_15_method_131_code_0 18 rfl rfl) rfl (lv_at hl 0 rfl) ?_
  refine lv_iconst (v := iI 0) hx hb (D_3 W_prog_15_method_131_code_0 19 rfl rfl) rfl ?_
  obtain ⟨r4, F4, B4, hc4, hf⟩ := gbind hf
  refine va_callv (va_runV (As := [.int (iI 0)]) (rest := []) ⟨hx, hb, hml, hown, hts⟩ (c_M_put_0 (l := l) hc4) (cwV 1 hts (gdV k_12_199 k_12_201 ks_142 k_1_9 k_12_202) rfl rfl rfl (by decide +kernel) ⟨Nat.le_of_ble_eq_true rfl, Nat.le_of_ble_eq_true rfl⟩) (zPV X hZ3 hS3 (ci := 14) (by decide) (by decide) (r := (RX14, TX14, 107)) rfl [.int (iI 0)]) rfl rfl hl.1 rfl (lv_room (Nat.le_of_ble_eq_true rfl)) (D_182 W_prog_15_method_131_code_0 20 rfl rfl rfl) ⟨Nat.le_of_ble_eq_true rfl, Nat.le_of_ble_eq_true rfl⟩) hS3 (fun q _ h => zAin X hS3 q h) (zAin X hS3) (fun u4 t4 H4 locs4 ht4 hv4 hw4 hB4 hz4 hk4 hS4 => ?_)
  have hZ4 := zBack X ht4 hB4
  refine lv_aload_n hx hb (D_42 W_prog_15_method_131_code_0 23 rfl rfl) rfl (lv_at hl 0 rfl) ?_
  refine zget (ci := 14) (C := RX14) (T := TX14) (v := .int (iI (F4 14 0 71))) (k := 71) hx hb hts inW_14 hown hK hZ4 (by decide) (by decide) rfl (by decide) k_11_69 rfl (D_180 W_prog_15_method_131_code_0 24 rfl rfl rfl) ?_
  refine lv_iload_n hx hb (D_27 W_prog_15_method_131_code_0 27 rfl rfl) rfl (lv_at hl 1 rfl) ?_
  refine zsub hx hb (D_100 W_prog_15_method_131_code_0 28 rfl rfl) ?_
  refine lv_istore_n (lv' := [(2, .int (iI ((F4 14 0 71) - l1))), (0, .ref (ad 14 0 0)), (1, .int (iI l1))]) hx hb (D_61 W_prog_15_method_131_code_0 29 rfl rfl) rfl hl (by decide) rfl (fun ls hl => ?_)
  refine lv_iconst (v := iI 0) hx hb (D_3 W_prog_15_method_131_code_0 30 rfl rfl) rfl ?_
  refine lv_istore_n (lv' := [(3, .int (iI 0)), (2, .int (iI ((F4 14 0 71) - l1))), (0, .ref (ad 14 0 0)), (1, .int (iI l1))]) hx hb (D_62 W_prog_15_method_131_code_0 31 rfl rfl) rfl hl (by decide) rfl (fun ls hl => ?_)
  exact b_M_endTrack_32 X hf hZ4 hS4 (lv_sub hl [0, 1, 2, 3] rfl)

abbrev Q_M_word (D : va_G) (ca : Nat → ClassId) (ad : Nat → Int → Nat → Nat) (L : List Nat) (r : Int) (F : zF) (B : zB) (A : Nat → Prop) : Array Value → State → Outcome → State → Prop := va_Qv (S := Unit) (fun _ => True) (fun _ => zPo D ca ad lnM nM L F B A) A
def f_M_word_31 (rec3 : Int → Int → zF → zB → zO) (K : Nat) (l3 : Int) (l1 : Int) (F : zF) (B : zB) : zO := rec3 (l3 - 8) l1 F B
set_option maxHeartbeats 4000000 in
set_option maxRecDepth 100000 in
theorem b_M_word_31 {D : va_G} {ca : Nat → ClassId} {ad : Nat → Int → Nat → Nat} {L : List Nat} {aS vS : Nat → Nat} {A : Nat → Prop} {p : Program} {l : Launch} {e : Env} {s : State} {m : MethodId} {args : Array Value} {below : List Frame} {meth : Method} {c : Code} {K : Nat} {r : Int} {F9 : zF} {B9 : zB} (X : zX D ca L aS vS A p s m args meth c prog_15_method_126_code 4 (Option.none : Option Jvm.ClassFile.FieldType) "StaveHouseModel") {rec3 : Int → Int → zF → zB → zO} (hrec3 : ∀ {l3 : Int} {l1 : Int} {F : zF} {B : zB} {H : Heap} {locs : List Loc} {ls : Array Slot}, rec3 l3 l1 F B = some (r, F9, B9) → zH D ca ad lnM nM L F B A H → va_S A s.heap H locs → lv_has ls 4 [(3, .int (iI l3)), (0, .ref (ad 14 0 0)), (1, .long (lI l1))] → W p l e ({ frames := 1, cells := 0, slots := 0, locals := 21 } : Room) s m args below meth c H locs 0 0 (MQ below (Q_M_word D ca ad L r F9 B9 A) args s 0 0 A) (F0 m 3 ls [])) {l3 : Int} {l1 : Int} {F : zF} {B : zB} {H : Heap} {locs : List Loc} {ls : Array Slot} (hf : f_M_word_31 rec3 K l3 l1 F B = some (r, F9, B9)) (hZ : zH D ca ad lnM nM L F B A H) (hS : va_S A s.heap H locs) (hl : lv_has ls 4 [(3, .int (iI l3)), (0, .ref (ad 14 0 0)), (1, .long (lI l1))]) : W p l e ({ frames := 1, cells := 0, slots := 0, locals := 21 } : Room) s m args below meth c H locs 0 0 (MQ below (Q_M_word D ca ad L r F9 B9 A) args s 0 0 A) (F0 m 31 ls []) := by
  obtain ⟨hx, hb, hr, hml, hown, hts, hlk, hK, hA, hL, hX⟩ := id X
  replace hf : (rec3 (l3 - 8) l1 F B) = some (r, F9, B9) := hf
  refine lv_iinc (v := iI (l3 - 8)) (lv' := [(3, .int (iI (l3 - 8))), (0, .ref (ad 14 0 0)), (1, .long (lI l1))]) hx hb d_15_126_31 hl (k := 0) rfl (by rw [show Int32.ofInt (-8) = iI (-8) from rfl, iI_add]; congr 1) (by decide) rfl (fun ls hl => ?_)
  refine lv_goto (tgt := 3) hx hb (D_167 W_prog_15_method_126_code_32 2 rfl rfl rfl) (by decide) ?_
  exact hrec3 hf hZ hS (lv_sub hl [0, 1, 2] rfl)

def f_M_word_3 (K : Nat) : Nat → Int → Int → zF → zB → zO
  | 0, _, _, _, _ => none
  | n + 1, l3, l1, F, B => if r32 l3 then (if l3 < 0 then some (0, F, B) else if r64 (zland (zlshr l1 l3) 255) then (if (zcmp (zland (zlshr l1 l3) 255) 0) = 0 then f_M_word_31 (f_M_word_3 K n) K l3 l1 F B else if r32 (zland (zlshr l1 l3) 255) then zbind (f_M_put_0 K (zland (zlshr l1 l3) 255) F B) (fun r6 F6 B6 => f_M_word_31 (f_M_word_3 K n) K l3 l1 F6 B6) else none) else none) else none
set_option maxHeartbeats 4000000 in
set_option maxRecDepth 100000 in
theorem b_M_word_3 {D : va_G} {ca : Nat → ClassId} {ad : Nat → Int → Nat → Nat} {L : List Nat} {aS vS : Nat → Nat} {A : Nat → Prop} {p : Program} {l : Launch} {e : Env} {s : State} {m : MethodId} {args : Array Value} {below : List Frame} {meth : Method} {c : Code} {K : Nat} {r : Int} {F9 : zF} {B9 : zB} (X : zX D ca L aS vS A p s m args meth c prog_15_method_126_code 4 (Option.none : Option Jvm.ClassFile.FieldType) "StaveHouseModel") : ∀ {n : Nat} {l3 : Int} {l1 : Int} {F : zF} {B : zB} {H : Heap} {locs : List Loc} {ls : Array Slot}, f_M_word_3 K n l3 l1 F B = some (r, F9, B9) → zH D ca ad lnM nM L F B A H → va_S A s.heap H locs → lv_has ls 4 [(3, .int (iI l3)), (0, .ref (ad 14 0 0)), (1, .long (lI l1))] → W p l e ({ frames := 1, cells := 0, slots := 0, locals := 21 } : Room) s m args below meth c H locs 0 0 (MQ below (Q_M_word D ca ad L r F9 B9 A) args s 0 0 A) (F0 m 3 ls []) := by
  obtain ⟨hx, hb, hr, hml, hown, hts, hlk, hK, hA, hL, hX⟩ := id X
  intro n
  induction n with
  | zero =>
    intros
    rename_i hf _ _ _
    cases hf
  | succ n ih =>
    intro l3 l1 F B H locs ls hf hZ hS hl
    replace hf : (if r32 l3 then (if l3 < 0 then some (0, F, B) else if r64 (zland (zlshr l1 l3) 255) then (if (zcmp (zland (zlshr l1 l3) 255) 0) = 0 then f_M_word_31 (f_M_word_3 K n) K l3 l1 F B else if r32 (zland (zlshr l1 l3) 255) then zbind (f_M_put_0 K (zland (zlshr l1 l3) 255) F B) (fun r6 F6 B6 => f_M_word_31 (f_M_word_3 K n) K l3 l1 F6 B6) else none) else none) else none) = some (r, F9, B9) := hf
    refine lv_iload_n hx hb (D_29 W_prog_15_method_126_code_0 3 rfl rfl) rfl (lv_at hl 0 rfl) ?_
    obtain ⟨g1, hf⟩ := gif hf
    refine z0lt (tgt := 37) hx hb g1 (D_155 W_prog_15_method_126_code_0 4 rfl rfl rfl) (by decide) (fun h2 => ?_) (fun h2 => ?_)
    · replace hf := gpos hf h2
      cases hf
      exact W.vret hx hb hr (fun t ht hW => ⟨⟨(), rfl, trivial, by rw [ht]; exact hZ, va_K.moved hW.alike hK⟩, hS.F ht⟩) hS.2.2 (D_177 W_prog_15_method_126_code_32 5 rfl rfl) hlk
    · replace hf := gneg hf h2
      refine lv_lload_n hx hb (D_31 W_prog_15_method_126_code_0 7 rfl rfl) rfl (lv_at hl 2 rfl) ?_
      refine lv_iload_n hx hb (D_29 W_prog_15_method_126_code_0 8 rfl rfl) rfl (lv_at hl 0 rfl) ?_
      refine zlshr_r hx hb (D_123 W_prog_15_method_126_code_0 9 rfl rfl) ?_
      refine lv_ldc2 hx hb hown (hts _ k_12_225) (D_20 W_prog_15_method_126_code_0 10 rfl rfl rfl) ?_
      refine W.eq (g2 := F0 m 13 ls [.long (lI 255), .long (lI (zlshr l1 l3))]) rfl ?_
      refine zland_r hx hb (D_127 W_prog_15_method_126_code_0 13 rfl rfl) ?_
      refine lv_lconst (v := lI 0) hx hb (D_9 W_prog_15_method_126_code_0 14 rfl rfl) (by decide) ?_
      obtain ⟨g3, hf⟩ := gif hf
      refine zcmp_r hx hb g3 (by decide) (D_148 W_prog_15_method_126_code_0 15 rfl rfl) ?_
      refine z0eq (tgt := 31) hx hb zcmp_32 (D_153 W_prog_15_method_126_code_0 16 rfl rfl rfl) (by decide) (fun h4 => ?_) (fun h4 => ?_)
      · replace hf := gpos hf h4
        exact b_M_word_31 X ih hf hZ hS (lv_sub hl [0, 1, 2] rfl)
      · replace hf := gneg hf h4
        refine lv_aload_n hx hb (D_42 W_prog_15_method_126_code_0 19 rfl rfl) rfl (lv_at hl 1 rfl) ?_
        refine lv_lload_n hx hb (D_31 W_prog_15_method_126_code_0 20 rfl rfl) rfl (lv_at hl 2 rfl) ?_
        refine lv_iload_n hx hb (D_29 W_prog_15_method_126_code_0 21 rfl rfl) rfl (lv_at hl 0 rfl) ?_
        refine zlshr_r hx hb (D_123 W_prog_15_method_126_code_0 22 rfl rfl) ?_
        refine lv_ldc2 hx hb hown (hts _ k_12_225) (D_20 W_prog_15_method_126_code_0 23 rfl rfl rfl) ?_
        refine W.eq (g2 := F0 m 26 ls [.long (lI 255), .long (lI (zlshr l1 l3)), .ref (ad 14 0 0)]) rfl ?_
        refine zland_r hx hb (D_127 W_prog_15_method_126_code_0 26 rfl rfl) ?_
        obtain ⟨g5, hf⟩ := gif hf
        refine zl2i hx hb g5 (D_136 W_prog_15_method_126_code_0 27 rfl rfl) ?_
        obtain ⟨r6, F6, B6, hc6, hf⟩ := gbind hf
        refine va_callv (va_runV (As := [.int (iI (zland (zlshr l1 l3) 255))]) (rest := []) ⟨hx, hb, hml, hown, hts⟩ (c_M_put_0 (l := l) hc6) (cwV 1 hts (gdV k_12_199 k_12_201 ks_142 k_1_9 k_12_202) rfl rfl rfl (by decide +kernel) ⟨Nat.le_of_ble_eq_true rfl, Nat.le_of_ble_eq_true rfl⟩) (zPV X hZ hS (ci := 14) (by decide) (by decide) (r := (RX14, TX14, 107)) rfl [.int (iI (zland (zlshr l1 l3) 255))]) rfl rfl hl.1 rfl (lv_room (Nat.le_of_ble_eq_true rfl)) (D_182 W_prog_15_method_126_code_0 28 rfl rfl rfl) ⟨Nat.le_of_ble_eq_true rfl, Nat.le_of_ble_eq_true rfl⟩) hS (fun q _ h => zAin X hS q h) (zAin X hS) (fun u6 t6 H6 locs6 ht6 hv6 hw6 hB6 hz6 hk6 hS6 => ?_)
        have hZ6 := zBack X ht6 hB6
        exact b_M_word_31 X ih hf hZ6 hS6 (lv_sub hl [0, 1, 2] rfl)

def f_M_word (K : Nat) (l1 : Int) (F : zF) (B : zB) : zO := f_M_word_3 K K 56 l1 F B
set_option maxHeartbeats 4000000 in
set_option maxRecDepth 100000 in
theorem c_M_word {l : Launch} {D : va_G} {ca : Nat → ClassId} {ad : Nat → Int → Nat → Nat} {L : List Nat} {aS vS : Nat → Nat} {sz K : Nat}  {l1 : Int} {F F9 : zF} {B B9 : zB} {r : Int} (hf : f_M_word K l1 F B = some (r, F9, B9)) : Met l ({ cls := "StaveHouseModel", name := "word", desc := "(J)V" } : Jvm.MethodName) (Cond.code ({ cls := "StaveHouseModel", name := "word", desc := "(J)V" } : Jvm.MethodName) prog_15_method_126_code 4 (Option.none : Option Jvm.ClassFile.FieldType) :: wAll) ({ frames := 1, cells := 0, slots := 0, locals := 21 } : Room) (va_Pc [.ref (ad 14 0 0), .long (lI l1)] (zPre D ca ad lnM nM L aS vS F B sz)) (Q_M_word D ca ad L r F9 B9 (zA L sz)) 0 0 (zA L sz) := by
  refine zMet (Qc := Q_M_word D ca ad L r F9 B9) (lv := [(0, .ref (ad 14 0 0)), (1, .long (lI l1))]) (by decide) (Nat.le_of_ble_eq_true rfl) rfl (fun A p e s m below meth c ls X hZ hS hl => ?_)
  obtain ⟨hx, hb, hr, hml, hown, hts, hlk, hK, hA, hL, hX⟩ := id X
  replace hf : (f_M_word_3 K K 56 l1 F B) = some (r, F9, B9) := hf
  refine lv_bipush (v := iI 56) hx hb (D_16 W_prog_15_method_126_code_0 0 rfl rfl rfl) (by decide) ?_
  refine lv_istore_n (lv' := [(3, .int (iI 56)), (0, .ref (ad 14 0 0)), (1, .long (lI l1))]) hx hb (D_62 W_prog_15_method_126_code_0 2 rfl rfl) rfl hl (by decide) rfl (fun ls hl => ?_)
  exact b_M_word_3 X hf hZ hS (lv_sub hl [0, 1, 2] rfl)

abbrev Q_M_delta (D : va_G) (ca : Nat → ClassId) (ad : Nat → Int → Nat → Nat) (L : List Nat) (r : Int) (F : zF) (B : zB) (A : Nat → Prop) : Array Value → State → Outcome → State → Prop := va_Qv (S := Unit) (fun _ => True) (fun _ => zPo D ca ad lnM nM L F B A) A
def f_M_delta_27 (rec3 : Int → Int → zF → zB → zO) (K : Nat) (l2 : Int) (l1 : Int) (F : zF) (B : zB) : zO := rec3 (l2 - 7) l1 F B
set_option maxHeartbeats 4000000 in
set_option maxRecDepth 100000 in
theorem b_M_delta_27 {D : va_G} {ca : Nat → ClassId} {ad : Nat → Int → Nat → Nat} {L : List Nat} {aS vS : Nat → Nat} {A : Nat → Prop} {p : Program} {l : Launch} {e : Env} {s : State} {m : MethodId} {args : Array Value} {below : List Frame} {meth : Method} {c : Code} {K : Nat} {r : Int} {F9 : zF} {B9 : zB} (X : zX D ca L aS vS A p s m args meth c prog_15_method_128_code 3 (Option.none : Option Jvm.ClassFile.FieldType) "StaveHouseModel") {rec3 : Int → Int → zF → zB → zO} (hrec3 : ∀ {l2 : Int} {l1 : Int} {F : zF} {B : zB} {H : Heap} {locs : List Loc} {ls : Array Slot}, rec3 l2 l1 F B = some (r, F9, B9) → zH D ca ad lnM nM L F B A H → va_S A s.heap H locs → lv_has ls 3 [(2, .int (iI l2)), (0, .ref (ad 14 0 0)), (1, .int (iI l1))] → W p l e ({ frames := 1, cells := 0, slots := 0, locals := 21 } : Room) s m args below meth c H locs 0 0 (MQ below (Q_M_delta D ca ad L r F9 B9 A) args s 0 0 A) (F0 m 3 ls [])) {l2 : Int} {l1 : Int} {F : zF} {B : zB} {H : Heap} {locs : List Loc} {ls : Array Slot} (hf : f_M_delta_27 rec3 K l2 l1 F B = some (r, F9, B9)) (hZ : zH D ca ad lnM nM L F B A H) (hS : va_S A s.heap H locs) (hl : lv_has ls 3 [(2, .int (iI l2)), (0, .ref (ad 14 0 0)), (1, .int (iI l1))]) : W p l e ({ frames := 1, cells := 0, slots := 0, locals := 21 } : Room) s m args below meth c H locs 0 0 (MQ below (Q_M_delta D ca ad L r F9 B9 A) args s 0 0 A) (F0 m 27 ls []) := by
  obtain ⟨hx, hb, hr, hml, hown, hts, hlk, hK, hA, hL, hX⟩ := id X
  replace hf : (rec3 (l2 - 7) l1 F B) = some (r, F9, B9) := hf
  refine lv_iinc (v := iI (l2 - 7)) (lv' := [(2, .int (iI (l2 - 7))), (0, .ref (ad 14 0 0)), (1, .int (iI l1))]) hx hb d_15_128_27 hl (k := 0) rfl (by rw [show Int32.ofInt (-7) = iI (-7) from rfl, iI_add]; congr 1) (by decide) rfl (fun ls hl => ?_)
  refine lv_goto (tgt := 3) hx hb (D_167 W_prog_15_method_128_code_0 30 rfl rfl rfl) (by decide) ?_
  exact hrec3 hf hZ hS (lv_sub hl [0, 1, 2] rfl)

def f_M_delta_3 (K : Nat) : Nat → Int → Int → zF → zB → zO
  | 0, _, _, _, _ => none
  | n + 1, l2, l1, F, B => if r32 l2 then (if l2 ≤ 0 then zbind (f_M_put_0 K (zand l1 127) F B) (fun r3 F3 B3 => some (0, F3, B3)) else if r32 (zshr l1 l2) then (if (zshr l1 l2) ≤ 0 then f_M_delta_27 (f_M_delta_3 K n) K l2 l1 F B else zbind (f_M_put_0 K (zor 128 (zand (zshr l1 l2) 127)) F B) (fun r6 F6 B6 => f_M_delta_27 (f_M_delta_3 K n) K l2 l1 F6 B6)) else none) else none
set_option maxHeartbeats 4000000 in
set_option maxRecDepth 100000 in
theorem b_M_delta_3 {D : va_G} {ca : Nat → ClassId} {ad : Nat → Int → Nat → Nat} {L : List Nat} {aS vS : Nat → Nat} {A : Nat → Prop} {p : Program} {l : Launch} {e : Env} {s : State} {m : MethodId} {args : Array Value} {below : List Frame} {meth : Method} {c : Code} {K : Nat} {r : Int} {F9 : zF} {B9 : zB} (X : zX D ca L aS vS A p s m args meth c prog_15_method_128_code 3 (Option.none : Option Jvm.ClassFile.FieldType) "StaveHouseModel") : ∀ {n : Nat} {l2 : Int} {l1 : Int} {F : zF} {B : zB} {H : Heap} {locs : List Loc} {ls : Array Slot}, f_M_delta_3 K n l2 l1 F B = some (r, F9, B9) → zH D ca ad lnM nM L F B A H → va_S A s.heap H locs → lv_has ls 3 [(2, .int (iI l2)), (0, .ref (ad 14 0 0)), (1, .int (iI l1))] → W p l e ({ frames := 1, cells := 0, slots := 0, locals := 21 } : Room) s m args below meth c H locs 0 0 (MQ below (Q_M_delta D ca ad L r F9 B9 A) args s 0 0 A) (F0 m 3 ls []) := by
  obtain ⟨hx, hb, hr, hml, hown, hts, hlk, hK, hA, hL, hX⟩ := id X
  intro n
  induction n with
  | zero =>
    intros
    rename_i hf _ _ _
    cases hf
  | succ n ih =>
    intro l2 l1 F B H locs ls hf hZ hS hl
    replace hf : (if r32 l2 then (if l2 ≤ 0 then zbind (f_M_put_0 K (zand l1 127) F B) (fun r3 F3 B3 => some (0, F3, B3)) else if r32 (zshr l1 l2) then (if (zshr l1 l2) ≤ 0 then f_M_delta_27 (f_M_delta_3 K n) K l2 l1 F B else zbind (f_M_put_0 K (zor 128 (zand (zshr l1 l2) 127)) F B) (fun r6 F6 B6 => f_M_delta_27 (f_M_delta_3 K n) K l2 l1 F6 B6)) else none) else none) = some (r, F9, B9) := hf
    refine lv_iload_n hx hb (D_28 W_prog_15_method_128_code_0 3 rfl rfl) rfl (lv_at hl 0 rfl) ?_
    obtain ⟨g1, hf⟩ := gif hf
    refine z0le (tgt := 33) hx hb g1 (D_158 W_prog_15_method_128_code_0 4 rfl rfl rfl) (by decide) (fun h2 => ?_) (fun h2 => ?_)
    · replace hf := gpos hf h2
      refine lv_aload_n hx hb (D_42 W_prog_15_method_128_code_32 1 rfl rfl) rfl (lv_at hl 1 rfl) ?_
      refine lv_iload_n hx hb (D_27 W_prog_15_method_128_code_32 2 rfl rfl) rfl (lv_at hl 2 rfl) ?_
      refine lv_bipush (v := iI 127) hx hb (D_16 W_prog_15_method_128_code_32 3 rfl rfl rfl) (by decide) ?_
      refine zand_r hx hb (D_126 W_prog_15_method_128_code_32 5 rfl rfl) ?_
      obtain ⟨r3, F3, B3, hc3, hf⟩ := gbind hf
      refine va_callv (va_runV (As := [.int (iI (zand l1 127))]) (rest := []) ⟨hx, hb, hml, hown, hts⟩ (c_M_put_0 (l := l) hc3) (cwV 1 hts (gdV k_12_199 k_12_201 ks_142 k_1_9 k_12_202) rfl rfl rfl (by decide +kernel) ⟨Nat.le_of_ble_eq_true rfl, Nat.le_of_ble_eq_true rfl⟩) (zPV X hZ hS (ci := 14) (by decide) (by decide) (r := (RX14, TX14, 107)) rfl [.int (iI (zand l1 127))]) rfl rfl hl.1 rfl (lv_room (Nat.le_of_ble_eq_true rfl)) (D_182 W_prog_15_method_128_code_32 6 rfl rfl rfl) ⟨Nat.le_of_ble_eq_true rfl, Nat.le_of_ble_eq_true rfl⟩) hS (fun q _ h => zAin X hS q h) (zAin X hS) (fun u3 t3 H3 locs3 ht3 hv3 hw3 hB3 hz3 hk3 hS3 => ?_)
      have hZ3 := zBack X ht3 hB3
      cases hf
      exact W.vret hx hb hr (fun t ht hW => ⟨⟨(), rfl, trivial, by rw [ht]; exact hZ3, va_K.moved hW.alike hK⟩, hS3.F ht⟩) hS3.2.2 (D_177 W_prog_15_method_128_code_32 9 rfl rfl) hlk
    · replace hf := gneg hf h2
      refine lv_iload_n hx hb (D_27 W_prog_15_method_128_code_0 7 rfl rfl) rfl (lv_at hl 2 rfl) ?_
      refine lv_iload_n hx hb (D_28 W_prog_15_method_128_code_0 8 rfl rfl) rfl (lv_at hl 0 rfl) ?_
      refine zshr_r hx hb (D_122 W_prog_15_method_128_code_0 9 rfl rfl) ?_
      obtain ⟨g4, hf⟩ := gif hf
      refine z0le (tgt := 27) hx hb g4 (D_158 W_prog_15_method_128_code_0 10 rfl rfl rfl) (by decide) (fun h5 => ?_) (fun h5 => ?_)
      · replace hf := gpos hf h5
        exact b_M_delta_27 X ih hf hZ hS (lv_sub hl [0, 1, 2] rfl)
      · replace hf := gneg hf h5
        refine lv_aload_n hx hb (D_42 W_prog_15_method_128_code_0 13 rfl rfl) rfl (lv_at hl 1 rfl) ?_
        refine lv_sipush (v := iI 128) hx hb (D_17 W_prog_15_method_128_code_0 14 rfl rfl rfl) (by decide) ?_
        refine lv_iload_n hx hb (D_27 W_prog_15_method_128_code_0 17 rfl rfl) rfl (lv_at hl 2 rfl) ?_
        refine lv_iload_n hx hb (D_28 W_prog_15_method_128_code_0 18 rfl rfl) rfl (lv_at hl 0 rfl) ?_
        refine zshr_r hx hb (D_122 W_prog_15_method_128_code_0 19 rfl rfl) ?_
        refine lv_bipush (v := iI 127) hx hb (D_16 W_prog_15_method_128_code_0 20 rfl rfl rfl) (by decide) ?_
        refine zand_r hx hb (D_126 W_prog_15_method_128_code_0 22 rfl rfl) ?_
        refine zor_r hx hb (D_128 W_prog_15_method_128_code_0 23 rfl rfl) ?_
        obtain ⟨r6, F6, B6, hc6, hf⟩ := gbind hf
        refine va_callv (va_runV (As := [.int (iI (zor 128 (zand (zshr l1 l2) 127)))]) (rest := []) ⟨hx, hb, hml, hown, hts⟩ (c_M_put_0 (l := l) hc6) (cwV 1 hts (gdV k_12_199 k_12_201 ks_142 k_1_9 k_12_202) rfl rfl rfl (by decide +kernel) ⟨Nat.le_of_ble_eq_true rfl, Nat.le_of_ble_eq_true rfl⟩) (zPV X hZ hS (ci := 14) (by decide) (by decide) (r := (RX14, TX14, 107)) rfl [.int (iI (zor 128 (zand (zshr l1 l2) 127)))]) rfl rfl hl.1 rfl (lv_room (Nat.le_of_ble_eq_true rfl)) (D_182 W_prog_15_method_128_code_0 24 rfl rfl rfl) ⟨Nat.le_of_ble_eq_true rfl, Nat.le_of_ble_eq_true rfl⟩) hS (fun q _ h => zAin X hS q h) (zAin X hS) (fun u6 t6 H6 locs6 ht6 hv6 hw6 hB6 hz6 hk6 hS6 => ?_)
        have hZ6 := zBack X ht6 hB6
        exact b_M_delta_27 X ih hf hZ6 hS6 (lv_sub hl [0, 1, 2] rfl)

def f_M_delta (K : Nat) (l1 : Int) (F : zF) (B : zB) : zO := f_M_delta_3 K K 28 l1 F B
set_option maxHeartbeats 4000000 in
set_option maxRecDepth 100000 in
theorem c_M_delta {l : Launch} {D : va_G} {ca : Nat → ClassId} {ad : Nat → Int → Nat → Nat} {L : List Nat} {aS vS : Nat → Nat} {sz K : Nat}  {l1 : Int} {F F9 : zF} {B B9 : zB} {r : Int} (hf : f_M_delta K l1 F B = some (r, F9, B9)) : Met l ({ cls := "StaveHouseModel", name := "delta", desc := "(I)V" } : Jvm.MethodName) (Cond.code ({ cls := "StaveHouseModel", name := "delta", desc := "(I)V" } : Jvm.MethodName) prog_15_method_128_code 3 (Option.none : Option Jvm.ClassFile.FieldType) :: wAll) ({ frames := 1, cells := 0, slots := 0, locals := 21 } : Room) (va_Pc [.ref (ad 14 0 0), .int (iI l1)] (zPre D ca ad lnM nM L aS vS F B sz)) (Q_M_delta D ca ad L r F9 B9 (zA L sz)) 0 0 (zA L sz) := by
  refine zMet (Qc := Q_M_delta D ca ad L r F9 B9) (lv := [(0, .ref (ad 14 0 0)), (1, .int (iI l1))]) (by decide) (Nat.le_of_ble_eq_true rfl) rfl (fun A p e s m below meth c ls X hZ hS hl => ?_)
  obtain ⟨hx, hb, hr, hml, hown, hts, hlk, hK, hA, hL, hX⟩ := id X
  replace hf : (f_M_delta_3 K K 28 l1 F B) = some (r, F9, B9) := hf
  refine lv_bipush (v := iI 28) hx hb (D_16 W_prog_15_method_128_code_0 0 rfl rfl rfl) (by decide) ?_
  refine lv_istore_n (lv' := [(2, .int (iI 28)), (0, .ref (ad 14 0 0)), (1, .int (iI l1))]) hx hb (D_61 W_prog_15_method_128_code_0 2 rfl rfl) rfl hl (by decide) rfl (fun ls hl => ?_)
  exact b_M_delta_3 X hf hZ hS (lv_sub hl [0, 1, 2] rfl)

abbrev Q_M_out (D : va_G) (ca : Nat → ClassId) (ad : Nat → Int → Nat → Nat) (L : List Nat) (r : Int) (F : zF) (B : zB) (A : Nat → Prop) : Array Value → State → Outcome → State → Prop := va_Qi (S := Unit) (fun p _ => p = iI r) (fun _ => zPo D ca ad lnM nM L F B A) A
def f_M_out_26 (K : Nat) (s0 : Int) (F : zF) (B : zB) : zO := some (s0, F, B)
set_option maxHeartbeats 4000000 in
set_option maxRecDepth 100000 in
theorem b_M_out_26 {D : va_G} {ca : Nat → ClassId} {ad : Nat → Int → Nat → Nat} {L : List Nat} {aS vS : Nat → Nat} {A : Nat → Prop} {p : Program} {l : Launch} {e : Env} {s : State} {m : MethodId} {args : Array Value} {below : List Frame} {meth : Method} {c : Code} {K : Nat} {r : Int} {F9 : zF} {B9 : zB} (X : zX D ca L aS vS A p s m args meth c prog_15_method_133_code 2 (Option.some Jvm.ClassFile.FieldType.int) "StaveHouseModel") {s0 : Int} {F : zF} {B : zB} {H : Heap} {locs : List Loc} {ls : Array Slot} (hf : f_M_out_26 K s0 F B = some (r, F9, B9)) (hZ : zH D ca ad lnM nM L F B A H) (hS : va_S A s.heap H locs) (hl : lv_has ls 2 []) : W p l e ({ frames := 0, cells := 0, slots := 0, locals := 0 } : Room) s m args below meth c H locs 0 0 (MQ below (Q_M_out D ca ad L r F9 B9 A) args s 0 0 A) (F0 m 26 ls [.int (iI s0)]) := by
  obtain ⟨hx, hb, hr, hml, hown, hts, hlk, hK, hA, hL, hX⟩ := id X
  replace hf : (some (s0, F, B)) = some (r, F9, B9) := hf
  cases hf
  exact W.iret hx hb hr (fun t ht hW => ⟨⟨_, (), rfl, rfl, by rw [ht]; exact hZ, va_K.moved hW.alike hK⟩, hS.F ht⟩) hS.2.2 (D_172 W_prog_15_method_133_code_0 26 rfl rfl) hlk

def f_M_out_25 (K : Nat)  (F : zF) (B : zB) : zO := f_M_out_26 K (-1) F B
set_option maxHeartbeats 4000000 in
set_option maxRecDepth 100000 in
theorem b_M_out_25 {D : va_G} {ca : Nat → ClassId} {ad : Nat → Int → Nat → Nat} {L : List Nat} {aS vS : Nat → Nat} {A : Nat → Prop} {p : Program} {l : Launch} {e : Env} {s : State} {m : MethodId} {args : Array Value} {below : List Frame} {meth : Method} {c : Code} {K : Nat} {r : Int} {F9 : zF} {B9 : zB} (X : zX D ca L aS vS A p s m args meth c prog_15_method_133_code 2 (Option.some Jvm.ClassFile.FieldType.int) "StaveHouseModel")  {F : zF} {B : zB} {H : Heap} {locs : List Loc} {ls : Array Slot} (hf : f_M_out_25 K  F B = some (r, F9, B9)) (hZ : zH D ca ad lnM nM L F B A H) (hS : va_S A s.heap H locs) (hl : lv_has ls 2 []) : W p l e ({ frames := 0, cells := 0, slots := 0, locals := 0 } : Room) s m args below meth c H locs 0 0 (MQ below (Q_M_out D ca ad L r F9 B9 A) args s 0 0 A) (F0 m 25 ls []) := by
  obtain ⟨hx, hb, hr, hml, hown, hts, hlk, hK, hA, hL, hX⟩ := id X
  replace hf : (f_M_out_26 K (-1) F B) = some (r, F9, B9) := hf
  refine lv_iconst (v := iI (-1)) hx hb (D_2 W_prog_15_method_133_code_0 25 rfl rfl) rfl ?_
  exact b_M_out_26 X hf hZ hS (lv_sub hl [] rfl)

def f_M_out (K : Nat) (l1 : Int) (F : zF) (B : zB) : zO := if r32 l1 then (if l1 < 0 then f_M_out_25 K F B else if r32 (F 14 0 71) then (if (F 14 0 71) ≤ l1 then f_M_out_25 K F B else if 0 ≤ l1 ∧ l1 < 40000 then f_M_out_26 K (zand (B 14 0 70 l1) 255) F B else none) else none) else none
set_option maxHeartbeats 4000000 in
set_option maxRecDepth 100000 in
theorem c_M_out {l : Launch} {D : va_G} {ca : Nat → ClassId} {ad : Nat → Int → Nat → Nat} {L : List Nat} {aS vS : Nat → Nat} {sz K : Nat}  {l1 : Int} {F F9 : zF} {B B9 : zB} {r : Int} (hf : f_M_out K l1 F B = some (r, F9, B9)) : Met l ({ cls := "StaveHouseModel", name := "out", desc := "(I)I" } : Jvm.MethodName) (Cond.code ({ cls := "StaveHouseModel", name := "out", desc := "(I)I" } : Jvm.MethodName) prog_15_method_133_code 2 (Option.some Jvm.ClassFile.FieldType.int) :: wAll) ({ frames := 0, cells := 0, slots := 0, locals := 0 } : Room) (va_Pc [.ref (ad 14 0 0), .int (iI l1)] (zPre D ca ad lnM nM L aS vS F B sz)) (Q_M_out D ca ad L r F9 B9 (zA L sz)) 0 0 (zA L sz) := by
  refine zMet (Qc := Q_M_out D ca ad L r F9 B9) (lv := [(0, .ref (ad 14 0 0)), (1, .int (iI l1))]) (by decide) (Nat.le_of_ble_eq_true rfl) rfl (fun A p e s m below meth c ls X hZ hS hl => ?_)
  obtain ⟨hx, hb, hr, hml, hown, hts, hlk, hK, hA, hL, hX⟩ := id X
  replace hf : (if r32 l1 then (if l1 < 0 then f_M_out_25 K F B else if r32 (F 14 0 71) then (if (F 14 0 71) ≤ l1 then f_M_out_25 K F B else if 0 ≤ l1 ∧ l1 < 40000 then f_M_out_26 K (zand (B 14 0 70 l1) 255) F B else none) else none) else none) = some (r, F9, B9) := hf
  refine lv_iload_n hx hb (D_27 W_prog_15_method_133_code_0 0 rfl rfl) rfl (lv_at hl 1 rfl) ?_
  obtain ⟨g1, hf⟩ := gif hf
  refine z0lt (tgt := 25) hx hb g1 (D_155 W_prog_15_method_133_code_0 1 rfl rfl rfl) (by decide) (fun h2 => ?_) (fun h2 => ?_)
  · replace hf := gpos hf h2
    exact b_M_out_25 X hf hZ hS (lv_sub hl [] rfl)
  · replace hf := gneg hf h2
    refine lv_iload_n hx hb (D_27 W_prog_15_method_133_code_0 4 rfl rfl) rfl (lv_at hl 1 rfl) ?_
    refine lv_aload_n hx hb (D_42 W_prog_15_method_133_code_0 5 rfl rfl) rfl (lv_at hl 0 rfl) ?_
    refine zget (ci := 14) (C := RX14) (T := TX14) (v := .int (iI (F 14 0 71))) (k := 71) hx hb hts inW_14 hown hK hZ (by decide) (by decide) rfl (by decide) k_11_69 rfl (D_180 W_prog_15_method_133_code_0 6 rfl rfl rfl) ?_
    obtain ⟨g3, hf⟩ := gif hf
    refine zge (tgt := 25) hx hb g1 g3 (D_162 W_prog_15_method_133_code_0 9 rfl rfl rfl) (by decide) (fun h4 => ?_) (fun h4 => ?_)
    · replace hf := gpos hf h4
      exact b_M_out_25 X hf hZ hS (lv_sub hl [] rfl)
    · replace hf := gneg hf h4
      refine lv_aload_n hx hb (D_42 W_prog_15_method_133_code_0 12 rfl rfl) rfl (lv_at hl 0 rfl) ?_
      refine zget (ci := 14) (C := RX14) (T := TX14) (v := .ref (ad 14 0 (70 + 1))) (k := 70) hx hb hts inW_14 hown hK hZ (by decide) (by decide) rfl (by decide) k_11_68 rfl (D_180 W_prog_15_method_133_code_0 13 rfl rfl rfl) ?_
      refine lv_iload_n hx hb (D_27 W_prog_15_method_133_code_0 16 rfl rfl) rfl (lv_at hl 1 rfl) ?_
      obtain ⟨g5, hf⟩ := gif hf
      refine zbald (ci := 14) (k := 70) hx hb hK rfl hZ (by decide) (by decide) rfl (Nat.le_of_ble_eq_true rfl) g5.1 g5.2 (D_51 W_prog_15_method_133_code_0 17 rfl rfl) ?_
      refine lv_sipush (v := iI 255) hx hb (D_17 W_prog_15_method_133_code_0 18 rfl rfl rfl) (by decide) ?_
      refine zand_r hx hb (D_126 W_prog_15_method_133_code_0 21 rfl rfl) ?_
      refine lv_goto (tgt := 26) hx hb (D_167 W_prog_15_method_133_code_0 22 rfl rfl rfl) (by decide) ?_
      exact b_M_out_26 X hf hZ hS (lv_sub hl [] rfl)

abbrev Q_M_again (D : va_G) (ca : Nat → ClassId) (ad : Nat → Int → Nat → Nat) (L : List Nat) (r : Int) (F : zF) (B : zB) (A : Nat → Prop) : Array Value → State → Outcome → State → Prop := va_Qi (S := Unit) (fun p _ => p = iI r) (fun _ => zPo D ca ad lnM nM L F B A) A
def f_M_again_21 (K : Nat) : Nat → Int → zF → zB → zO
  | 0, _, _, _ => none
  | n + 1, l1, F, B => if r32 l1 then if r32 (F 14 0 71) then (if (F 14 0 71) ≤ l1 then some (F 14 0 71, (zup3 F 14 0 3 (F 14 0 71)), B) else if 0 ≤ l1 ∧ l1 < 40000 then if 0 ≤ l1 ∧ l1 < 3000 then f_M_again_21 K n (l1 + 1) F (zup4 B 14 0 2 l1 (zi2b (B 14 0 70 l1))) else none else none) else none else none
set_option maxHeartbeats 4000000 in
set_option maxRecDepth 100000 in
theorem b_M_again_21 {D : va_G} {ca : Nat → ClassId} {ad : Nat → Int → Nat → Nat} {L : List Nat} {aS vS : Nat → Nat} {A : Nat → Prop} {p : Program} {l : Launch} {e : Env} {s : State} {m : MethodId} {args : Array Value} {below : List Frame} {meth : Method} {c : Code} {K : Nat} {r : Int} {F9 : zF} {B9 : zB} (X : zX D ca L aS vS A p s m args meth c prog_15_method_134_code 2 (Option.some Jvm.ClassFile.FieldType.int) "StaveHouseModel") : ∀ {n : Nat} {l1 : Int} {F : zF} {B : zB} {H : Heap} {locs : List Loc} {ls : Array Slot}, f_M_again_21 K n l1 F B = some (r, F9, B9) → zH D ca ad lnM nM L F B A H → va_S A s.heap H locs → lv_has ls 2 [(1, .int (iI l1)), (0, .ref (ad 14 0 0))] → W p l e ({ frames := 0, cells := 0, slots := 0, locals := 0 } : Room) s m args below meth c H locs 0 0 (MQ below (Q_M_again D ca ad L r F9 B9 A) args s 0 0 A) (F0 m 21 ls []) := by
  obtain ⟨hx, hb, hr, hml, hown, hts, hlk, hK, hA, hL, hX⟩ := id X
  intro n
  induction n with
  | zero =>
    intros
    rename_i hf _ _ _
    cases hf
  | succ n ih =>
    intro l1 F B H locs ls hf hZ hS hl
    replace hf : (if r32 l1 then if r32 (F 14 0 71) then (if (F 14 0 71) ≤ l1 then some (F 14 0 71, (zup3 F 14 0 3 (F 14 0 71)), B) else if 0 ≤ l1 ∧ l1 < 40000 then if 0 ≤ l1 ∧ l1 < 3000 then f_M_again_21 K n (l1 + 1) F (zup4 B 14 0 2 l1 (zi2b (B 14 0 70 l1))) else none else none) else none else none) = some (r, F9, B9) := hf
    refine lv_iload_n hx hb (D_27 W_prog_15_method_134_code_0 21 rfl rfl) rfl (lv_at hl 0 rfl) ?_
    refine lv_aload_n hx hb (D_42 W_prog_15_method_134_code_0 22 rfl rfl) rfl (lv_at hl 1 rfl) ?_
    refine zget (ci := 14) (C := RX14) (T := TX14) (v := .int (iI (F 14 0 71))) (k := 71) hx hb hts inW_14 hown hK hZ (by decide) (by decide) rfl (by decide) k_11_69 rfl (D_180 W_prog_15_method_134_code_0 23 rfl rfl rfl) ?_
    obtain ⟨g4, hf⟩ := gif hf
    obtain ⟨g5, hf⟩ := gif hf
    refine zge (tgt := 47) hx hb g4 g5 (D_162 W_prog_15_method_134_code_0 26 rfl rfl rfl) (by decide) (fun h6 => ?_) (fun h6 => ?_)
    · replace hf := gpos hf h6
      refine lv_aload_n hx hb (D_42 W_prog_15_method_134_code_32 15 rfl rfl) rfl (lv_at hl 1 rfl) ?_
      refine lv_aload_n hx hb (D_42 W_prog_15_method_134_code_32 16 rfl rfl) rfl (lv_at hl 1 rfl) ?_
      refine zget (ci := 14) (C := RX14) (T := TX14) (v := .int (iI (F 14 0 71))) (k := 71) hx hb hts inW_14 hown hK hZ (by decide) (by decide) rfl (by decide) k_11_69 rfl (D_180 W_prog_15_method_134_code_32 17 rfl rfl rfl) ?_
      refine zput (ci := 14) (C := RX14) (T := TX14) (k := 3) (v := (F 14 0 71)) (w := .int (iI (F 14 0 71))) hx hb hts inW_14 tyX14 tyX14_ok nmX14 hown hK hZ hS (by decide) (by decide) rfl (by decide) k_11_1 rfl (fun G h => congrArg (fun q => Value.int (iI q)) h) rfl rfl (zno (by decide)) (D_181 W_prog_15_method_134_code_32 20 rfl rfl rfl) (fun H7 locs7 hZ7 hS7 => ?_)
      refine lv_aload_n hx hb (D_42 W_prog_15_method_134_code_32 23 rfl rfl) rfl (lv_at hl 1 rfl) ?_
      refine zget (ci := 14) (C := RX14) (T := TX14) (v := .int (iI (F 14 0 71))) (k := 3) hx hb hts inW_14 hown hK hZ7 (by decide) (by decide) rfl (by decide) k_11_1 rfl (D_180 W_prog_15_method_134_code_32 24 rfl rfl rfl) ?_
      cases hf
      exact W.iret hx hb hr (fun t ht hW => ⟨⟨_, (), rfl, rfl, by rw [ht]; exact hZ7, va_K.moved hW.alike hK⟩, hS7.F ht⟩) hS7.2.2 (D_172 W_prog_15_method_134_code_32 27 rfl rfl) hlk
    · replace hf := gneg hf h6
      refine lv_aload_n hx hb (D_42 W_prog_15_method_134_code_0 29 rfl rfl) rfl (lv_at hl 1 rfl) ?_
      refine zget (ci := 14) (C := RX14) (T := TX14) (v := .ref (ad 14 0 (2 + 1))) (k := 2) hx hb hts inW_14 hown hK hZ (by decide) (by decide) rfl (by decide) k_11_0 rfl (D_180 W_prog_15_method_134_code_0 30 rfl rfl rfl) ?_
      refine lv_iload_n hx hb (D_27 W_prog_15_method_134_code_32 1 rfl rfl) rfl (lv_at hl 0 rfl) ?_
      refine lv_aload_n hx hb (D_42 W_prog_15_method_134_code_32 2 rfl rfl) rfl (lv_at hl 1 rfl) ?_
      refine zget (ci := 14) (C := RX14) (T := TX14) (v := .ref (ad 14 0 (70 + 1))) (k := 70) hx hb hts inW_14 hown hK hZ (by decide) (by decide) rfl (by decide) k_11_68 rfl (D_180 W_prog_15_method_134_code_32 3 rfl rfl rfl) ?_
      refine lv_iload_n hx hb (D_27 W_prog_15_method_134_code_32 6 rfl rfl) rfl (lv_at hl 0 rfl) ?_
      obtain ⟨g8, hf⟩ := gif hf
      refine zbald (ci := 14) (k := 70) hx hb hK rfl hZ (by decide) (by decide) rfl (Nat.le_of_ble_eq_true rfl) g8.1 g8.2 (D_51 W_prog_15_method_134_code_32 7 rfl rfl) ?_
      obtain ⟨g9, hf⟩ := gif hf
      refine zbast (ci := 14) (k := 2) hx hb hK rfl hZ hS (by decide) (by decide) rfl (Nat.le_of_ble_eq_true rfl) g9.1 g9.2 (D_84 W_prog_15_method_134_code_32 8 rfl rfl) (fun H10 locs10 hZ10 hS10 => ?_)
      refine lv_iinc (v := iI (l1 + 1)) (lv' := [(1, .int (iI (l1 + 1))), (0, .ref (ad 14 0 0))]) hx hb d_15_134_41 hl (k := 0) rfl (iI_add _ 1) (by decide) rfl (fun ls hl => ?_)
      refine lv_goto (tgt := 21) hx hb (D_167 W_prog_15_method_134_code_32 12 rfl rfl rfl) (by decide) ?_
      exact ih hf hZ10 hS10 (lv_sub hl [0, 1] rfl)

def f_M_again_17 (K : Nat)  (F : zF) (B : zB) : zO := some ((-1), F, B)
set_option maxHeartbeats 4000000 in
set_option maxRecDepth 100000 in
theorem b_M_again_17 {D : va_G} {ca : Nat → ClassId} {ad : Nat → Int → Nat → Nat} {L : List Nat} {aS vS : Nat → Nat} {A : Nat → Prop} {p : Program} {l : Launch} {e : Env} {s : State} {m : MethodId} {args : Array Value} {below : List Frame} {meth : Method} {c : Code} {K : Nat} {r : Int} {F9 : zF} {B9 : zB} (X : zX D ca L aS vS A p s m args meth c prog_15_method_134_code 2 (Option.some Jvm.ClassFile.FieldType.int) "StaveHouseModel")  {F : zF} {B : zB} {H : Heap} {locs : List Loc} {ls : Array Slot} (hf : f_M_again_17 K  F B = some (r, F9, B9)) (hZ : zH D ca ad lnM nM L F B A H) (hS : va_S A s.heap H locs) (hl : lv_has ls 2 []) : W p l e ({ frames := 0, cells := 0, slots := 0, locals := 0 } : Room) s m args below meth c H locs 0 0 (MQ below (Q_M_again D ca ad L r F9 B9 A) args s 0 0 A) (F0 m 17 ls []) := by
  obtain ⟨hx, hb, hr, hml, hown, hts, hlk, hK, hA, hL, hX⟩ := id X
  replace hf : (some ((-1), F, B)) = some (r, F9, B9) := hf
  refine lv_iconst (v := iI (-1)) hx hb (D_2 W_prog_15_method_134_code_0 17 rfl rfl) rfl ?_
  cases hf
  exact W.iret hx hb hr (fun t ht hW => ⟨⟨_, (), rfl, rfl, by rw [ht]; exact hZ, va_K.moved hW.alike hK⟩, hS.F ht⟩) hS.2.2 (D_172 W_prog_15_method_134_code_0 18 rfl rfl) hlk

def f_M_again (K : Nat)  (F : zF) (B : zB) : zO := if r32 (F 14 0 71) then (if (F 14 0 71) = 0 then f_M_again_17 K F B else (if (F 14 0 71) ≤ 3000 then f_M_again_21 K K 0 F B else f_M_again_17 K F B)) else none
set_option maxHeartbeats 4000000 in
set_option maxRecDepth 100000 in
theorem c_M_again {l : Launch} {D : va_G} {ca : Nat → ClassId} {ad : Nat → Int → Nat → Nat} {L : List Nat} {aS vS : Nat → Nat} {sz K : Nat}   {F F9 : zF} {B B9 : zB} {r : Int} (hf : f_M_again K  F B = some (r, F9, B9)) : Met l ({ cls := "StaveHouseModel", name := "again", desc := "()I" } : Jvm.MethodName) (Cond.code ({ cls := "StaveHouseModel", name := "again", desc := "()I" } : Jvm.MethodName) prog_15_method_134_code 2 (Option.some Jvm.ClassFile.FieldType.int) :: wAll) ({ frames := 0, cells := 0, slots := 0, locals := 0 } : Room) (va_Pc [.ref (ad 14 0 0)] (zPre D ca ad lnM nM L aS vS F B sz)) (Q_M_again D ca ad L r F9 B9 (zA L sz)) 0 0 (zA L sz) := by
  refine zMet (Qc := Q_M_again D ca ad L r F9 B9) (lv := [(0, .ref (ad 14 0 0))]) (by decide) (Nat.le_of_ble_eq_true rfl) rfl (fun A p e s m below meth c ls X hZ hS hl => ?_)
  obtain ⟨hx, hb, hr, hml, hown, hts, hlk, hK, hA, hL, hX⟩ := id X
  replace hf : (if r32 (F 14 0 71) then (if (F 14 0 71) = 0 then f_M_again_17 K F B else (if (F 14 0 71) ≤ 3000 then f_M_again_21 K K 0 F B else f_M_again_17 K F B)) else none) = some (r, F9, B9) := hf
  refine lv_aload_n hx hb (D_42 W_prog_15_method_134_code_0 0 rfl rfl) rfl (lv_at hl 0 rfl) ?_
  refine zget (ci := 14) (C := RX14) (T := TX14) (v := .int (iI (F 14 0 71))) (k := 71) hx hb hts inW_14 hown hK hZ (by decide) (by decide) rfl (by decide) k_11_69 rfl (D_180 W_prog_15_method_134_code_0 1 rfl rfl rfl) ?_
  obtain ⟨g1, hf⟩ := gif hf
  refine z0eq (tgt := 17) hx hb g1 (D_153 W_prog_15_method_134_code_0 4 rfl rfl rfl) (by decide) (fun h2 => ?_) (fun h2 => ?_)
  · replace hf := gpos hf h2
    exact b_M_again_17 X hf hZ hS (lv_sub hl [] rfl)
  · replace hf := gneg hf h2
    refine lv_aload_n hx hb (D_42 W_prog_15_method_134_code_0 7 rfl rfl) rfl (lv_at hl 0 rfl) ?_
    refine zget (ci := 14) (C := RX14) (T := TX14) (v := .int (iI (F 14 0 71))) (k := 71) hx hb hts inW_14 hown hK hZ (by decide) (by decide) rfl (by decide) k_11_69 rfl (D_180 W_prog_15_method_134_code_0 8 rfl rfl rfl) ?_
    refine lv_sipush (v := iI 3000) hx hb (D_17 W_prog_15_method_134_code_0 11 rfl rfl rfl) (by decide) ?_
    refine zle (tgt := 19) hx hb g1 (by decide) (D_164 W_prog_15_method_134_code_0 14 rfl rfl rfl) (by decide) (fun h3 => ?_) (fun h3 => ?_)
    · replace hf := gpos hf h3
      refine lv_iconst (v := iI 0) hx hb (D_3 W_prog_15_method_134_code_0 19 rfl rfl) rfl ?_
      refine lv_istore_n (lv' := [(1, .int (iI 0)), (0, .ref (ad 14 0 0))]) hx hb (D_60 W_prog_15_method_134_code_0 20 rfl rfl) rfl hl (by decide) rfl (fun ls hl => ?_)
      exact b_M_again_21 X hf hZ hS (lv_sub hl [0, 1] rfl)
    · replace hf := gneg hf h3
      exact b_M_again_17 X hf hZ hS (lv_sub hl [] rfl)

abbrev Q_M_good (D : va_G) (ca : Nat → ClassId) (ad : Nat → Int → Nat → Nat) (L : List Nat) (r : Int) (F : zF) (B : zB) (A : Nat → Prop) : Array Value → State → Outcome → State → Prop := va_Qi (S := Unit) (fun p _ => p = iI r) (fun _ => zPo D ca ad lnM nM L F B A) A
def f_M_good_12 (K : Nat) (s0 : Int) (F : zF) (B : zB) : zO := if (s0 = 0 ∨ s0 = 1) then some (s0, F, B) else none
set_option maxHeartbeats 4000000 in
set_option maxRecDepth 100000 in
theorem b_M_good_12 {D : va_G} {ca : Nat → ClassId} {ad : Nat → Int → Nat → Nat} {L : List Nat} {aS vS : Nat → Nat} {A : Nat → Prop} {p : Program} {l : Launch} {e : Env} {s : State} {m : MethodId} {args : Array Value} {below : List Frame} {meth : Method} {c : Code} {K : Nat} {r : Int} {F9 : zF} {B9 : zB} (X : zX D ca L aS vS A p s m args meth c prog_15_method_28_code 1 (Option.some Jvm.ClassFile.FieldType.boolean) "StaveHouseModel") {s0 : Int} {F : zF} {B : zB} {H : Heap} {locs : List Loc} {ls : Array Slot} (hf : f_M_good_12 K s0 F B = some (r, F9, B9)) (hZ : zH D ca ad lnM nM L F B A H) (hS : va_S A s.heap H locs) (hl : lv_has ls 1 []) : W p l e ({ frames := 0, cells := 0, slots := 0, locals := 0 } : Room) s m args below meth c H locs 0 0 (MQ below (Q_M_good D ca ad L r F9 B9 A) args s 0 0 A) (F0 m 12 ls [.int (iI s0)]) := by
  obtain ⟨hx, hb, hr, hml, hown, hts, hlk, hK, hA, hL, hX⟩ := id X
  replace hf : (if (s0 = 0 ∨ s0 = 1) then some (s0, F, B) else none) = some (r, F9, B9) := hf
  obtain ⟨g3, hf⟩ := gif hf
  cases hf
  exact W.zret hx hb hr (zbool g3) (fun t ht hW => ⟨⟨_, (), rfl, rfl, by rw [ht]; exact hZ, va_K.moved hW.alike hK⟩, hS.F ht⟩) hS.2.2 (D_172 W_prog_15_method_28_code_0 12 rfl rfl) hlk

def f_M_good (K : Nat)  (F : zF) (B : zB) : zO := if r32 (F 14 0 17) then (if (F 14 0 17) = 0 then f_M_good_12 K 1 F B else f_M_good_12 K 0 F B) else none
set_option maxHeartbeats 4000000 in
set_option maxRecDepth 100000 in
theorem c_M_good {l : Launch} {D : va_G} {ca : Nat → ClassId} {ad : Nat → Int → Nat → Nat} {L : List Nat} {aS vS : Nat → Nat} {sz K : Nat}   {F F9 : zF} {B B9 : zB} {r : Int} (hf : f_M_good K  F B = some (r, F9, B9)) : Met l ({ cls := "StaveHouseModel", name := "good", desc := "()Z" } : Jvm.MethodName) (Cond.code ({ cls := "StaveHouseModel", name := "good", desc := "()Z" } : Jvm.MethodName) prog_15_method_28_code 1 (Option.some Jvm.ClassFile.FieldType.boolean) :: wAll) ({ frames := 0, cells := 0, slots := 0, locals := 0 } : Room) (va_Pc [.ref (ad 14 0 0)] (zPre D ca ad lnM nM L aS vS F B sz)) (Q_M_good D ca ad L r F9 B9 (zA L sz)) 0 0 (zA L sz) := by
  refine zMet (Qc := Q_M_good D ca ad L r F9 B9) (lv := [(0, .ref (ad 14 0 0))]) (by decide) (Nat.le_of_ble_eq_true rfl) rfl (fun A p e s m below meth c ls X hZ hS hl => ?_)
  obtain ⟨hx, hb, hr, hml, hown, hts, hlk, hK, hA, hL, hX⟩ := id X
  replace hf : (if r32 (F 14 0 17) then (if (F 14 0 17) = 0 then f_M_good_12 K 1 F B else f_M_good_12 K 0 F B) else none) = some (r, F9, B9) := hf
  refine lv_aload_n hx hb (D_42 W_prog_15_method_28_code_0 0 rfl rfl) rfl (lv_at hl 0 rfl) ?_
  refine zget (ci := 14) (C := RX14) (T := TX14) (v := .int (iI (F 14 0 17))) (k := 17) hx hb hts inW_14 hown hK hZ (by decide) (by decide) rfl (by decide) k_11_15 rfl (D_180 W_prog_15_method_28_code_0 1 rfl rfl rfl) ?_
  obtain ⟨g1, hf⟩ := gif hf
  refine z0ne (tgt := 11) hx hb g1 (D_154 W_prog_15_method_28_code_0 4 rfl rfl rfl) (by decide) (fun h2 => ?_) (fun h2 => ?_)
  · replace hf := gneg hf h2
    refine lv_iconst (v := iI 0) hx hb (D_3 W_prog_15_method_28_code_0 11 rfl rfl) rfl ?_
    exact b_M_good_12 X hf hZ hS (lv_sub hl [] rfl)
  · replace hf := gpos hf h2
    refine lv_iconst (v := iI 1) hx hb (D_4 W_prog_15_method_28_code_0 7 rfl rfl) rfl ?_
    refine lv_goto (tgt := 12) hx hb (D_167 W_prog_15_method_28_code_0 8 rfl rfl rfl) (by decide) ?_
    exact b_M_good_12 X hf hZ hS (lv_sub hl [] rfl)

abbrev Q_M_failByte (D : va_G) (ca : Nat → ClassId) (ad : Nat → Int → Nat → Nat) (L : List Nat) (r : Int) (F : zF) (B : zB) (A : Nat → Prop) : Array Value → State → Outcome → State → Prop := va_Qv (S := Unit) (fun _ => True) (fun _ => zPo D ca ad lnM nM L F B A) A
def f_M_failByte (K : Nat) (l1 : Int) (l2 : Int) (F : zF) (B : zB) : zO := if r32 (F 14 0 17) then (if (F 14 0 17) ≤ 0 then some (0, (zup3 (zup3 F 14 0 17 l1) 14 0 18 l2), B) else some (0, F, B)) else none
set_option maxHeartbeats 4000000 in
set_option maxRecDepth 100000 in
theorem c_M_failByte {l : Launch} {D : va_G} {ca : Nat → ClassId} {ad : Nat → Int → Nat → Nat} {L : List Nat} {aS vS : Nat → Nat} {sz K : Nat}  {l1 : Int} {l2 : Int} {F F9 : zF} {B B9 : zB} {r : Int} (hf : f_M_failByte K l1 l2 F B = some (r, F9, B9)) : Met l ({ cls := "StaveHouseModel", name := "failByte", desc := "(II)V" } : Jvm.MethodName) (Cond.code ({ cls := "StaveHouseModel", name := "failByte", desc := "(II)V" } : Jvm.MethodName) prog_15_method_135_code 3 (Option.none : Option Jvm.ClassFile.FieldType) :: wAll) ({ frames := 0, cells := 0, slots := 0, locals := 0 } : Room) (va_Pc [.ref (ad 14 0 0), .int (iI l1), .int (iI l2)] (zPre D ca ad lnM nM L aS vS F B sz)) (Q_M_failByte D ca ad L r F9 B9 (zA L sz)) 0 0 (zA L sz) := by
  refine zMet (Qc := Q_M_failByte D ca ad L r F9 B9) (lv := [(0, .ref (ad 14 0 0)), (1, .int (iI l1)), (2, .int (iI l2))]) (by decide) (Nat.le_of_ble_eq_true rfl) rfl (fun A p e s m below meth c ls X hZ hS hl => ?_)
  obtain ⟨hx, hb, hr, hml, hown, hts, hlk, hK, hA, hL, hX⟩ := id X
  replace hf : (if r32 (F 14 0 17) then (if (F 14 0 17) ≤ 0 then some (0, (zup3 (zup3 F 14 0 17 l1) 14 0 18 l2), B) else some (0, F, B)) else none) = some (r, F9, B9) := hf
  refine lv_aload_n hx hb (D_42 W_prog_15_method_135_code_0 0 rfl rfl) rfl (lv_at hl 0 rfl) ?_
  refine zget (ci := 14) (C := RX14) (T := TX14) (v := .int (iI (F 14 0 17))) (k := 17) hx hb hts inW_14 hown hK hZ (by decide) (by decide) rfl (by decide) k_11_15 rfl (D_180 W_prog_15_method_135_code_0 1 rfl rfl rfl) ?_
  obtain ⟨g1, hf⟩ := gif hf
  refine z0le (tgt := 8) hx hb g1 (D_158 W_prog_15_method_135_code_0 4 rfl rfl rfl) (by decide) (fun h2 => ?_) (fun h2 => ?_)
  · replace hf := gpos hf h2
    refine lv_aload_n hx hb (D_42 W_prog_15_method_135_code_0 8 rfl rfl) rfl (lv_at hl 0 rfl) ?_
    refine lv_iload_n hx hb (D_27 W_prog_15_method_135_code_0 9 rfl rfl) rfl (lv_at hl 1 rfl) ?_
    refine zput (ci := 14) (C := RX14) (T := TX14) (k := 17) (v := l1) (w := .int (iI l1)) hx hb hts inW_14 tyX14 tyX14_ok nmX14 hown hK hZ hS (by decide) (by decide) rfl (by decide) k_11_15 rfl (fun G h => congrArg (fun q => Value.int (iI q)) h) rfl rfl (zno (by decide)) (D_181 W_prog_15_method_135_code_0 10 rfl rfl rfl) (fun H3 locs3 hZ3 hS3 => ?_)
    refine lv_aload_n hx hb (D_42 W_prog_15_method_135_code_0 13 rfl rfl) rfl (lv_at hl 0 rfl) ?_
    refine lv_iload_n hx hb (D_28 W_prog_15_method_135_code_0 14 rfl rfl) rfl (lv_at hl 2 rfl) ?_
    refine zput (ci := 14) (C := RX14) (T := TX14) (k := 18) (v := l2) (w := .int (iI l2)) hx hb hts inW_14 tyX14 tyX14_ok nmX14 hown hK hZ3 hS3 (by decide) (by decide) rfl (by decide) k_11_16 rfl (fun G h => congrArg (fun q => Value.int (iI q)) h) rfl rfl (zno (by decide)) (D_181 W_prog_15_method_135_code_0 15 rfl rfl rfl) (fun H4 locs4 hZ4 hS4 => ?_)
    cases hf
    exact W.vret hx hb hr (fun t ht hW => ⟨⟨(), rfl, trivial, by rw [ht]; exact hZ4, va_K.moved hW.alike hK⟩, hS4.F ht⟩) hS4.2.2 (D_177 W_prog_15_method_135_code_0 18 rfl rfl) hlk
  · replace hf := gneg hf h2
    cases hf
    exact W.vret hx hb hr (fun t ht hW => ⟨⟨(), rfl, trivial, by rw [ht]; exact hZ, va_K.moved hW.alike hK⟩, hS.F ht⟩) hS.2.2 (D_177 W_prog_15_method_135_code_0 7 rfl rfl) hlk

abbrev Q_M_byteAt (D : va_G) (ca : Nat → ClassId) (ad : Nat → Int → Nat → Nat) (L : List Nat) (r : Int) (F : zF) (B : zB) (A : Nat → Prop) : Array Value → State → Outcome → State → Prop := va_Qi (S := Unit) (fun p _ => p = iI r) (fun _ => zPo D ca ad lnM nM L F B A) A
def f_M_byteAt (K : Nat) (l1 : Int) (F : zF) (B : zB) : zO := if 0 ≤ l1 ∧ l1 < 3000 then some (zand (B 14 0 2 l1) 255, F, B) else none
set_option maxHeartbeats 4000000 in
set_option maxRecDepth 100000 in
theorem c_M_byteAt {l : Launch} {D : va_G} {ca : Nat → ClassId} {ad : Nat → Int → Nat → Nat} {L : List Nat} {aS vS : Nat → Nat} {sz K : Nat}  {l1 : Int} {F F9 : zF} {B B9 : zB} {r : Int} (hf : f_M_byteAt K l1 F B = some (r, F9, B9)) : Met l ({ cls := "StaveHouseModel", name := "byteAt", desc := "(I)I" } : Jvm.MethodName) (Cond.code ({ cls := "StaveHouseModel", name := "byteAt", desc := "(I)I" } : Jvm.MethodName) prog_15_method_14_code 2 (Option.some Jvm.ClassFile.FieldType.int) :: wAll) ({ frames := 0, cells := 0, slots := 0, locals := 0 } : Room) (va_Pc [.ref (ad 14 0 0), .int (iI l1)] (zPre D ca ad lnM nM L aS vS F B sz)) (Q_M_byteAt D ca ad L r F9 B9 (zA L sz)) 0 0 (zA L sz) := by
  refine zMet (Qc := Q_M_byteAt D ca ad L r F9 B9) (lv := [(0, .ref (ad 14 0 0)), (1, .int (iI l1))]) (by decide) (Nat.le_of_ble_eq_true rfl) rfl (fun A p e s m below meth c ls X hZ hS hl => ?_)
  obtain ⟨hx, hb, hr, hml, hown, hts, hlk, hK, hA, hL, hX⟩ := id X
  replace hf : (if 0 ≤ l1 ∧ l1 < 3000 then some (zand (B 14 0 2 l1) 255, F, B) else none) = some (r, F9, B9) := hf
  refine lv_aload_n hx hb (D_42 W_prog_15_method_14_code_0 0 rfl rfl) rfl (lv_at hl 0 rfl) ?_
  refine zget (ci := 14) (C := RX14) (T := TX14) (v := .ref (ad 14 0 (2 + 1))) (k := 2) hx hb hts inW_14 hown hK hZ (by decide) (by decide) rfl (by decide) k_11_0 rfl (D_180 W_prog_15_method_14_code_0 1 rfl rfl rfl) ?_
  refine lv_iload_n hx hb (D_27 W_prog_15_method_14_code_0 4 rfl rfl) rfl (lv_at hl 1 rfl) ?_
  obtain ⟨g1, hf⟩ := gif hf
  refine zbald (ci := 14) (k := 2) hx hb hK rfl hZ (by decide) (by decide) rfl (Nat.le_of_ble_eq_true rfl) g1.1 g1.2 (D_51 W_prog_15_method_14_code_0 5 rfl rfl) ?_
  refine lv_sipush (v := iI 255) hx hb (D_17 W_prog_15_method_14_code_0 6 rfl rfl rfl) (by decide) ?_
  refine zand_r hx hb (D_126 W_prog_15_method_14_code_0 9 rfl rfl) ?_
  cases hf
  exact W.iret hx hb hr (fun t ht hW => ⟨⟨_, (), rfl, rfl, by rw [ht]; exact hZ, va_K.moved hW.alike hK⟩, hS.F ht⟩) hS.2.2 (D_172 W_prog_15_method_14_code_0 10 rfl rfl) hlk

abbrev Q_M_event_2 (D : va_G) (ca : Nat → ClassId) (ad : Nat → Int → Nat → Nat) (L : List Nat) (r : Int) (F : zF) (B : zB) (A : Nat → Prop) : Array Value → State → Outcome → State → Prop := va_Qv (S := Unit) (fun _ => True) (fun _ => zPo D ca ad lnM nM L F B A) A
def f_M_event_2_237 (K : Nat)  (F : zF) (B : zB) : zO := some (0, F, B)
set_option maxHeartbeats 4000000 in
set_option maxRecDepth 100000 in
theorem b_M_event_2_237 {D : va_G} {ca : Nat → ClassId} {ad : Nat → Int → Nat → Nat} {L : List Nat} {aS vS : Nat → Nat} {A : Nat → Prop} {p : Program} {l : Launch} {e : Env} {s : State} {m : MethodId} {args : Array Value} {below : List Frame} {meth : Method} {c : Code} {K : Nat} {r : Int} {F9 : zF} {B9 : zB} (X : zX D ca L aS vS A p s m args meth c prog_15_method_147_code 11 (Option.none : Option Jvm.ClassFile.FieldType) "StaveHouseModel")  {F : zF} {B : zB} {H : Heap} {locs : List Loc} {ls : Array Slot} (hf : f_M_event_2_237 K  F B = some (r, F9, B9)) (hZ : zH D ca ad lnM nM L F B A H) (hS : va_S A s.heap H locs) (hl : lv_has ls 11 []) : W p l e ({ frames := 1, cells := 0, slots := 0, locals := 22 } : Room) s m args below meth c H locs 0 0 (MQ below (Q_M_event_2 D ca ad L r F9 B9 A) args s 0 0 A) (F0 m 237 ls []) := by
  obtain ⟨hx, hb, hr, hml, hown, hts, hlk, hK, hA, hL, hX⟩ := id X
  replace hf : (some (0, F, B)) = some (r, F9, B9) := hf
  cases hf
  exact W.vret hx hb hr (fun t ht hW => ⟨⟨(), rfl, trivial, by rw [ht]; exact hZ, va_K.moved hW.alike hK⟩, hS.F ht⟩) hS.2.2 (D_177 W_prog_15_method_147_code_224 13 rfl rfl) hlk

def f_M_event_2_219 (K : Nat) (l10 : Int) (l6 : Int) (F : zF) (B : zB) : zO := if r32 l10 then if r32 (F 14 0 94) then (if (F 14 0 94) ≤ l10 then f_M_event_2_237 K F B else if 0 ≤ l10 ∧ l10 < 400 then f_M_event_2_237 K F (zup4 B 14 0 87 l10 l6) else none) else none else none
set_option maxHeartbeats 4000000 in
set_option maxRecDepth 100000 in
theorem b_M_event_2_219 {D : va_G} {ca : Nat → ClassId} {ad : Nat → Int → Nat → Nat} {L : List Nat} {aS vS : Nat → Nat} {A : Nat → Prop} {p : Program} {l : Launch} {e : Env} {s : State} {m : MethodId} {args : Array Value} {below : List Frame} {meth : Method} {c : Code} {K : Nat} {r : Int} {F9 : zF} {B9 : zB} (X : zX D ca L aS vS A p s m args meth c prog_15_method_147_code 11 (Option.none : Option Jvm.ClassFile.FieldType) "StaveHouseModel") {l10 : Int} {l6 : Int} {F : zF} {B : zB} {H : Heap} {locs : List Loc} {ls : Array Slot} (hf : f_M_event_2_219 K l10 l6 F B = some (r, F9, B9)) (hZ : zH D ca ad lnM nM L F B A H) (hS : va_S A s.heap H locs) (hl : lv_has ls 11 [(10, .int (iI l10)), (0, .ref (ad 14 0 0)), (6, .long (lI l6))]) : W p l e ({ frames := 1, cells := 0, slots := 0, locals := 22 } : Room) s m args below meth c H locs 0 0 (MQ below (Q_M_event_2 D ca ad L r F9 B9 A) args s 0 0 A) (F0 m 219 ls []) := by
  obtain ⟨hx, hb, hr, hml, hown, hts, hlk, hK, hA, hL, hX⟩ := id X
  replace hf : (if r32 l10 then if r32 (F 14 0 94) then (if (F 14 0 94) ≤ l10 then f_M_event_2_237 K F B else if 0 ≤ l10 ∧ l10 < 400 then f_M_event_2_237 K F (zup4 B 14 0 87 l10 l6) else none) else none else none) = some (r, F9, B9) := hf
  refine lv_iload hx hb (D_21 W_prog_15_method_147_code_192 27 rfl rfl) (lv_at hl 0 rfl) ?_
  refine lv_aload_n hx hb (D_42 W_prog_15_method_147_code_192 29 rfl rfl) rfl (lv_at hl 1 rfl) ?_
  refine zget (ci := 14) (C := RX14) (T := TX14) (v := .int (iI (F 14 0 94))) (k := 94) hx hb hts inW_14 hown hK hZ (by decide) (by decide) rfl (by decide) k_11_92 rfl (D_180 W_prog_15_method_147_code_192 30 rfl rfl rfl) ?_
  obtain ⟨g39, hf⟩ := gif hf
  obtain ⟨g40, hf⟩ := gif hf
  refine zge (tgt := 237) hx hb g39 g40 (D_162 W_prog_15_method_147_code_224 1 rfl rfl rfl) (by decide) (fun h41 => ?_) (fun h41 => ?_)
  · replace hf := gpos hf h41
    exact b_M_event_2_237 X hf hZ hS (lv_sub hl [] rfl)
  · replace hf := gneg hf h41
    refine lv_aload_n hx hb (D_42 W_prog_15_method_147_code_224 4 rfl rfl) rfl (lv_at hl 1 rfl) ?_
    refine zget (ci := 14) (C := RX14) (T := TX14) (v := .ref (ad 14 0 (87 + 1))) (k := 87) hx hb hts inW_14 hown hK hZ (by decide) (by decide) rfl (by decide) k_11_85 rfl (D_180 W_prog_15_method_147_code_224 5 rfl rfl rfl) ?_
    refine lv_iload hx hb (D_21 W_prog_15_method_147_code_224 8 rfl rfl) (lv_at hl 0 rfl) ?_
    refine lv_lload hx hb (D_22 W_prog_15_method_147_code_224 10 rfl rfl) (lv_at hl 2 rfl) ?_
    obtain ⟨g42, hf⟩ := gif hf
    refine zlast (ci := 14) (k := 87) hx hb hK rfl hZ hS (by decide) (by decide) rfl (Nat.le_of_ble_eq_true rfl) g42.1 g42.2 (D_80 W_prog_15_method_147_code_224 12 rfl rfl) (fun H43 locs43 hZ43 hS43 => ?_)
    exact b_M_event_2_237 X hf hZ43 hS43 (lv_sub hl [] rfl)

def f_M_event_2_213 (rec168 : Int → Int → Int → Int → zF → zB → zO) (K : Nat) (l10 : Int) (l9 : Int) (l4 : Int) (l6 : Int) (F : zF) (B : zB) : zO := rec168 (l10 + 1) l9 l4 l6 F B
set_option maxHeartbeats 4000000 in
set_option maxRecDepth 100000 in
theorem b_M_event_2_213 {D : va_G} {ca : Nat → ClassId} {ad : Nat → Int → Nat → Nat} {L : List Nat} {aS vS : Nat → Nat} {A : Nat → Prop} {p : Program} {l : Launch} {e : Env} {s : State} {m : MethodId} {args : Array Value} {below : List Frame} {meth : Method} {c : Code} {K : Nat} {r : Int} {F9 : zF} {B9 : zB} (X : zX D ca L aS vS A p s m args meth c prog_15_method_147_code 11 (Option.none : Option Jvm.ClassFile.FieldType) "StaveHouseModel") {rec168 : Int → Int → Int → Int → zF → zB → zO} (hrec168 : ∀ {l10 : Int} {l9 : Int} {l4 : Int} {l6 : Int} {F : zF} {B : zB} {H : Heap} {locs : List Loc} {ls : Array Slot}, rec168 l10 l9 l4 l6 F B = some (r, F9, B9) → zH D ca ad lnM nM L F B A H → va_S A s.heap H locs → lv_has ls 11 [(10, .int (iI l10)), (9, .int (iI l9)), (0, .ref (ad 14 0 0)), (4, .int (iI l4)), (6, .long (lI l6))] → W p l e ({ frames := 1, cells := 0, slots := 0, locals := 22 } : Room) s m args below meth c H locs 0 0 (MQ below (Q_M_event_2 D ca ad L r F9 B9 A) args s 0 0 A) (F0 m 168 ls [])) {l10 : Int} {l9 : Int} {l4 : Int} {l6 : Int} {F : zF} {B : zB} {H : Heap} {locs : List Loc} {ls : Array Slot} (hf : f_M_event_2_213 rec168 K l10 l9 l4 l6 F B = some (r, F9, B9)) (hZ : zH D ca ad lnM nM L F B A H) (hS : va_S A s.heap H locs) (hl : lv_has ls 11 [(10, .int (iI l10)), (9, .int (iI l9)), (0, .ref (ad 14 0 0)), (4, .int (iI l4)), (6, .long (lI l6))]) : W p l e ({ frames := 1, cells := 0, slots := 0, locals := 22 } : Room) s m args below meth c H locs 0 0 (MQ below (Q_M_event_2 D ca ad L r F9 B9 A) args s 0 0 A) (F0 m 213 ls []) := by
  obtain ⟨hx, hb, hr, hml, hown, hts, hlk, hK, hA, hL, hX⟩ := id X
  replace hf : (rec168 (l10 + 1) l9 l4 l6 F B) = some (r, F9, B9) := hf
  refine lv_iinc (v := iI (l10 + 1)) (lv' := [(10, .int (iI (l10 + 1))), (9, .int (iI l9)), (0, .ref (ad 14 0 0)), (4, .int (iI l4)), (6, .long (lI l6))]) hx hb d_15_147_213 hl (k := 0) rfl (iI_add _ 1) (by decide) rfl (fun ls hl => ?_)
  refine lv_goto (tgt := 168) hx hb (D_167 W_prog_15_method_147_code_192 24 rfl rfl rfl) (by decide) ?_
  exact hrec168 hf hZ hS (lv_sub hl [0, 1, 2, 3, 4] rfl)

def f_M_event_2_168 (K : Nat) : Nat → Int → Int → Int → Int → zF → zB → zO
  | 0, _, _, _, _, _, _ => none
  | n + 1, l10, l9, l4, l6, F, B => if r32 l10 then if r32 (F 14 0 94) then (if (F 14 0 94) ≤ l10 then f_M_event_2_219 K l10 l6 F B else if 0 ≤ l10 ∧ l10 < 400 then if r32 (B 14 0 83 l10) then if r32 l9 then (if (B 14 0 83 l10) = l9 then if r32 (B 14 0 84 l10) then if r32 l4 then (if (B 14 0 84 l10) = l4 then if r64 (B 14 0 87 l10) then (if (zcmp (B 14 0 87 l10) 0) < 0 then f_M_event_2_219 K l10 l6 F B else f_M_event_2_213 (f_M_event_2_168 K n) K l10 l9 l4 l6 F B) else none else f_M_event_2_213 (f_M_event_2_168 K n) K l10 l9 l4 l6 F B) else none else none else f_M_event_2_213 (f_M_event_2_168 K n) K l10 l9 l4 l6 F B) else none else none else none) else none else none
set_option maxHeartbeats 4000000 in
set_option maxRecDepth 100000 in
theorem b_M_event_2_168 {D : va_G} {ca : Nat → ClassId} {ad : Nat → Int → Nat → Nat} {L : List Nat} {aS vS : Nat → Nat} {A : Nat → Prop} {p : Program} {l : Launch} {e : Env} {s : State} {m : MethodId} {args : Array Value} {below : List Frame} {meth : Method} {c : Code} {K : Nat} {r : Int} {F9 : zF} {B9 : zB} (X : zX D ca L aS vS A p s m args meth c prog_15_method_147_code 11 (Option.none : Option Jvm.ClassFile.FieldType) "StaveHouseModel") : ∀ {n : Nat} {l10 : Int} {l9 : Int} {l4 : Int} {l6 : Int} {F : zF} {B : zB} {H : Heap} {locs : List Loc} {ls : Array Slot}, f_M_event_2_168 K n l10 l9 l4 l6 F B = some (r, F9, B9) → zH D ca ad lnM nM L F B A H → va_S A s.heap H locs → lv_has ls 11 [(10, .int (iI l10)), (9, .int (iI l9)), (0, .ref (ad 14 0 0)), (4, .int (iI l4)), (6, .long (lI l6))] → W p l e ({ frames := 1, cells := 0, slots := 0, locals := 22 } : Room) s m args below meth c H locs 0 0 (MQ below (Q_M_event_2 D ca ad L r F9 B9 A) args s 0 0 A) (F0 m 168 ls []) := by
  obtain ⟨hx, hb, hr, hml, hown, hts, hlk, hK, hA, hL, hX⟩ := id X
  intro n
  induction n with
  | zero =>
    intros
    rename_i hf _ _ _
    cases hf
  | succ n ih =>
    intro l10 l9 l4 l6 F B H locs ls hf hZ hS hl
    replace hf : (if r32 l10 then if r32 (F 14 0 94) then (if (F 14 0 94) ≤ l10 then f_M_event_2_219 K l10 l6 F B else if 0 ≤ l10 ∧ l10 < 400 then if r32 (B 14 0 83 l10) then if r32 l9 then (if (B 14 0 83 l10) = l9 then if r32 (B 14 0 84 l10) then if r32 l4 then (if (B 14 0 84 l10) = l4 then if r64 (B 14 0 87 l10) then (if (zcmp (B 14 0 87 l10) 0) < 0 then f_M_event_2_219 K l10 l6 F B else f_M_event_2_213 (f_M_event_2_168 K n) K l10 l9 l4 l6 F B) else none else f_M_event_2_213 (f_M_event_2_168 K n) K l10 l9 l4 l6 F B) else none else none else f_M_event_2_213 (f_M_event_2_168 K n) K l10 l9 l4 l6 F B) else none else none else none) else none else none) = some (r, F9, B9) := hf
    refine lv_iload hx hb (D_21 W_prog_15_method_147_code_160 8 rfl rfl) (lv_at hl 0 rfl) ?_
    refine lv_aload_n hx hb (D_42 W_prog_15_method_147_code_160 10 rfl rfl) rfl (lv_at hl 2 rfl) ?_
    refine zget (ci := 14) (C := RX14) (T := TX14) (v := .int (iI (F 14 0 94))) (k := 94) hx hb hts inW_14 hown hK hZ (by decide) (by decide) rfl (by decide) k_11_92 rfl (D_180 W_prog_15_method_147_code_160 11 rfl rfl rfl) ?_
    obtain ⟨g26, hf⟩ := gif hf
    obtain ⟨g27, hf⟩ := gif hf
    refine zge (tgt := 219) hx hb g26 g27 (D_162 W_prog_15_method_147_code_160 14 rfl rfl rfl) (by decide) (fun h28 => ?_) (fun h28 => ?_)
    · replace hf := gpos hf h28
      exact b_M_event_2_219 X hf hZ hS (lv_sub hl [0, 2, 4] rfl)
    · replace hf := gneg hf h28
      refine lv_aload_n hx hb (D_42 W_prog_15_method_147_code_160 17 rfl rfl) rfl (lv_at hl 2 rfl) ?_
      refine zget (ci := 14) (C := RX14) (T := TX14) (v := .ref (ad 14 0 (83 + 1))) (k := 83) hx hb hts inW_14 hown hK hZ (by decide) (by decide) rfl (by decide) k_11_81 rfl (D_180 W_prog_15_method_147_code_160 18 rfl rfl rfl) ?_
      refine lv_iload hx hb (D_21 W_prog_15_method_147_code_160 21 rfl rfl) (lv_at hl 0 rfl) ?_
      obtain ⟨g29, hf⟩ := gif hf
      refine zald (ci := 14) (k := 83) hx hb hK rfl hZ (by decide) (by decide) rfl (Nat.le_of_ble_eq_true rfl) g29.1 g29.2 (D_46 W_prog_15_method_147_code_160 23 rfl rfl) ?_
      refine lv_iload hx hb (D_21 W_prog_15_method_147_code_160 24 rfl rfl) (lv_at hl 1 rfl) ?_
      obtain ⟨g30, hf⟩ := gif hf
      obtain ⟨g31, hf⟩ := gif hf
      refine zne (tgt := 213) hx hb g30 g31 (D_160 W_prog_15_method_147_code_160 26 rfl rfl rfl) (by decide) (fun h33 => ?_) (fun h33 => ?_)
      · replace hf := gneg hf h33
        exact b_M_event_2_213 X ih hf hZ hS (lv_sub hl [0, 1, 2, 3, 4] rfl)
      · replace hf := gpos hf h33
        refine lv_aload_n hx hb (D_42 W_prog_15_method_147_code_160 29 rfl rfl) rfl (lv_at hl 2 rfl) ?_
        refine zget (ci := 14) (C := RX14) (T := TX14) (v := .ref (ad 14 0 (84 + 1))) (k := 84) hx hb hts inW_14 hown hK hZ (by decide) (by decide) rfl (by decide) k_11_82 rfl (D_180 W_prog_15_method_147_code_160 30 rfl rfl rfl) ?_
        refine lv_iload hx hb (D_21 W_prog_15_method_147_code_192 1 rfl rfl) (lv_at hl 0 rfl) ?_
        refine zald (ci := 14) (k := 84) hx hb hK rfl hZ (by decide) (by decide) rfl (Nat.le_of_ble_eq_true rfl) g29.1 g29.2 (D_46 W_prog_15_method_147_code_192 3 rfl rfl) ?_
        refine lv_iload hx hb (D_21 W_prog_15_method_147_code_192 4 rfl rfl) (lv_at hl 3 rfl) ?_
        obtain ⟨g34, hf⟩ := gif hf
        obtain ⟨g35, hf⟩ := gif hf
        refine zne (tgt := 213) hx hb g34 g35 (D_160 W_prog_15_method_147_code_192 6 rfl rfl rfl) (by decide) (fun h36 => ?_) (fun h36 => ?_)
        · replace hf := gneg hf h36
          exact b_M_event_2_213 X ih hf hZ hS (lv_sub hl [0, 1, 2, 3, 4] rfl)
        · replace hf := gpos hf h36
          refine lv_aload_n hx hb (D_42 W_prog_15_method_147_code_192 9 rfl rfl) rfl (lv_at hl 2 rfl) ?_
          refine zget (ci := 14) (C := RX14) (T := TX14) (v := .ref (ad 14 0 (87 + 1))) (k := 87) hx hb hts inW_14 hown hK hZ (by decide) (by decide) rfl (by decide) k_11_85 rfl (D_180 W_prog_15_method_147_code_192 10 rfl rfl rfl) ?_
          refine lv_iload hx hb (D_21 W_prog_15_method_147_code_192 13 rfl rfl) (lv_at hl 0 rfl) ?_
          refine zlald (ci := 14) (k := 87) hx hb hK rfl hZ (by decide) (by decide) rfl (Nat.le_of_ble_eq_true rfl) g29.1 g29.2 (D_47 W_prog_15_method_147_code_192 15 rfl rfl) ?_
          refine lv_lconst (v := lI 0) hx hb (D_9 W_prog_15_method_147_code_192 16 rfl rfl) (by decide) ?_
          obtain ⟨g37, hf⟩ := gif hf
          refine zcmp_r hx hb g37 (by decide) (D_148 W_prog_15_method_147_code_192 17 rfl rfl) ?_
          refine z0lt (tgt := 219) hx hb zcmp_32 (D_155 W_prog_15_method_147_code_192 18 rfl rfl rfl) (by decide) (fun h38 => ?_) (fun h38 => ?_)
          · replace hf := gpos hf h38
            exact b_M_event_2_219 X hf hZ hS (lv_sub hl [0, 2, 4] rfl)
          · replace hf := gneg hf h38
            exact b_M_event_2_213 X ih hf hZ hS (lv_sub hl [0, 1, 2, 3, 4] rfl)

def f_M_event_2_158 (K : Nat) (l9 : Int) (l2 : Int) (l3 : Int) (l4 : Int) (l6 : Int) (F : zF) (B : zB) : zO := if r32 l3 then (if 160 ≤ l3 then f_M_event_2_237 K F B else f_M_event_2_168 K K l2 l9 l4 l6 F B) else none
set_option maxHeartbeats 4000000 in
set_option maxRecDepth 100000 in
theorem b_M_event_2_158 {D : va_G} {ca : Nat → ClassId} {ad : Nat → Int → Nat → Nat} {L : List Nat} {aS vS : Nat → Nat} {A : Nat → Prop} {p : Program} {l : Launch} {e : Env} {s : State} {m : MethodId} {args : Array Value} {below : List Frame} {meth : Method} {c : Code} {K : Nat} {r : Int} {F9 : zF} {B9 : zB} (X : zX D ca L aS vS A p s m args meth c prog_15_method_147_code 11 (Option.none : Option Jvm.ClassFile.FieldType) "StaveHouseModel") {l9 : Int} {l2 : Int} {l3 : Int} {l4 : Int} {l6 : Int} {F : zF} {B : zB} {H : Heap} {locs : List Loc} {ls : Array Slot} (hf : f_M_event_2_158 K l9 l2 l3 l4 l6 F B = some (r, F9, B9)) (hZ : zH D ca ad lnM nM L F B A H) (hS : va_S A s.heap H locs) (hl : lv_has ls 11 [(9, .int (iI l9)), (0, .ref (ad 14 0 0)), (2, .int (iI l2)), (3, .int (iI l3)), (4, .int (iI l4)), (6, .long (lI l6))]) : W p l e ({ frames := 1, cells := 0, slots := 0, locals := 22 } : Room) s m args below meth c H locs 0 0 (MQ below (Q_M_event_2 D ca ad L r F9 B9 A) args s 0 0 A) (F0 m 158 ls []) := by
  obtain ⟨hx, hb, hr, hml, hown, hts, hlk, hK, hA, hL, hX⟩ := id X
  replace hf : (if r32 l3 then (if 160 ≤ l3 then f_M_event_2_237 K F B else f_M_event_2_168 K K l2 l9 l4 l6 F B) else none) = some (r, F9, B9) := hf
  refine lv_iload_n hx hb (D_29 W_prog_15_method_147_code_128 30 rfl rfl) rfl (lv_at hl 3 rfl) ?_
  refine lv_sipush (v := iI 160) hx hb (D_17 W_prog_15_method_147_code_128 31 rfl rfl rfl) (by decide) ?_
  obtain ⟨g24, hf⟩ := gif hf
  refine zge (tgt := 237) hx hb g24 (by decide) (D_162 W_prog_15_method_147_code_160 2 rfl rfl rfl) (by decide) (fun h25 => ?_) (fun h25 => ?_)
  · replace hf := gpos hf h25
    exact b_M_event_2_237 X hf hZ hS (lv_sub hl [] rfl)
  · replace hf := gneg hf h25
    refine lv_iload_n hx hb (D_28 W_prog_15_method_147_code_160 5 rfl rfl) rfl (lv_at hl 2 rfl) ?_
    refine lv_istore (lv' := [(10, .int (iI l2)), (9, .int (iI l9)), (0, .ref (ad 14 0 0)), (2, .int (iI l2)), (3, .int (iI l3)), (4, .int (iI l4)), (6, .long (lI l6))]) hx hb (D_54 W_prog_15_method_147_code_160 6 rfl rfl) hl (by decide) rfl (fun ls hl => ?_)
    exact b_M_event_2_168 X hf hZ hS (lv_sub hl [0, 1, 2, 5, 6] rfl)

def f_M_event_2_42 (K : Nat) (l9 : Int) (l1 : Int) (l2 : Int) (l3 : Int) (l4 : Int) (l5 : Int) (l6 : Int) (l8 : Int) (F : zF) (B : zB) : zO := if r32 l3 then (if l3 < 144 then f_M_event_2_158 K l9 l2 l3 l4 l6 F B else (if 160 ≤ l3 then f_M_event_2_158 K l9 l2 l3 l4 l6 F B else if r32 l5 then (if l5 ≤ 0 then f_M_event_2_158 K l9 l2 l3 l4 l6 F B else if r32 (F 14 0 94) then (if (F 14 0 94) = 400 then zbind (f_M_failByte K 3 l8 F B) (fun r23 F23 B23 => some (0, F23, B23)) else if 0 ≤ (F 14 0 94) ∧ (F 14 0 94) < 400 then f_M_event_2_237 K (zup3 F 14 0 94 ((F 14 0 94) + 1)) (zup4 (zup4 (zup4 (zup4 (zup4 (zup4 B 14 0 82 (F 14 0 94) l1) 14 0 83 (F 14 0 94) l9) 14 0 84 (F 14 0 94) l4) 14 0 85 (F 14 0 94) l5) 14 0 86 (F 14 0 94) l6) 14 0 87 (F 14 0 94) (-1)) else none) else none) else none)) else none
set_option maxHeartbeats 4000000 in
set_option maxRecDepth 100000 in
theorem b_M_event_2_42 {D : va_G} {ca : Nat → ClassId} {ad : Nat → Int → Nat → Nat} {L : List Nat} {aS vS : Nat → Nat} {A : Nat → Prop} {p : Program} {l : Launch} {e : Env} {s : State} {m : MethodId} {args : Array Value} {below : List Frame} {meth : Method} {c : Code} {K : Nat} {r : Int} {F9 : zF} {B9 : zB} (X : zX D ca L aS vS A p s m args meth c prog_15_method_147_code 11 (Option.none : Option Jvm.ClassFile.FieldType) "StaveHouseModel") {l9 : Int} {l1 : Int} {l2 : Int} {l3 : Int} {l4 : Int} {l5 : Int} {l6 : Int} {l8 : Int} {F : zF} {B : zB} {H : Heap} {locs : List Loc} {ls : Array Slot} (hf : f_M_event_2_42 K l9 l1 l2 l3 l4 l5 l6 l8 F B = some (r, F9, B9)) (hZ : zH D ca ad lnM nM L F B A H) (hS : va_S A s.heap H locs) (hl : lv_has ls 11 [(9, .int (iI l9)), (0, .ref (ad 14 0 0)), (1, .int (iI l1)), (2, .int (iI l2)), (3, .int (iI l3)), (4, .int (iI l4)), (5, .int (iI l5)), (6, .long (lI l6)), (8, .int (iI l8))]) : W p l e ({ frames := 1, cells := 0, slots := 0, locals := 22 } : Room) s m args below meth c H locs 0 0 (MQ below (Q_M_event_2 D ca ad L r F9 B9 A) args s 0 0 A) (F0 m 42 ls []) := by
  obtain ⟨hx, hb, hr, hml, hown, hts, hlk, hK, hA, hL, hX⟩ := id X
  replace hf : (if r32 l3 then (if l3 < 144 then f_M_event_2_158 K l9 l2 l3 l4 l6 F B else (if 160 ≤ l3 then f_M_event_2_158 K l9 l2 l3 l4 l6 F B else if r32 l5 then (if l5 ≤ 0 then f_M_event_2_158 K l9 l2 l3 l4 l6 F B else if r32 (F 14 0 94) then (if (F 14 0 94) = 400 then zbind (f_M_failByte K 3 l8 F B) (fun r23 F23 B23 => some (0, F23, B23)) else if 0 ≤ (F 14 0 94) ∧ (F 14 0 94) < 400 then f_M_event_2_237 K (zup3 F 14 0 94 ((F 14 0 94) + 1)) (zup4 (zup4 (zup4 (zup4 (zup4 (zup4 B 14 0 82 (F 14 0 94) l1) 14 0 83 (F 14 0 94) l9) 14 0 84 (F 14 0 94) l4) 14 0 85 (F 14 0 94) l5) 14 0 86 (F 14 0 94) l6) 14 0 87 (F 14 0 94) (-1)) else none) else none) else none)) else none) = some (r, F9, B9) := hf
  refine lv_iload_n hx hb (D_29 W_prog_15_method_147_code_32 10 rfl rfl) rfl (lv_at hl 4 rfl) ?_
  refine lv_sipush (v := iI 144) hx hb (D_17 W_prog_15_method_147_code_32 11 rfl rfl rfl) (by decide) ?_
  obtain ⟨g8, hf⟩ := gif hf
  refine zlt (tgt := 158) hx hb g8 (by decide) (D_161 W_prog_15_method_147_code_32 14 rfl rfl rfl) (by decide) (fun h9 => ?_) (fun h9 => ?_)
  · replace hf := gpos hf h9
    exact b_M_event_2_158 X hf hZ hS (lv_sub hl [0, 1, 3, 4, 5, 7] rfl)
  · replace hf := gneg hf h9
    refine lv_iload_n hx hb (D_29 W_prog_15_method_147_code_32 17 rfl rfl) rfl (lv_at hl 4 rfl) ?_
    refine lv_sipush (v := iI 160) hx hb (D_17 W_prog_15_method_147_code_32 18 rfl rfl rfl) (by decide) ?_
    refine zge (tgt := 158) hx hb g8 (by decide) (D_162 W_prog_15_method_147_code_32 21 rfl rfl rfl) (by decide) (fun h10 => ?_) (fun h10 => ?_)
    · replace hf := gpos hf h10
      exact b_M_event_2_158 X hf hZ hS (lv_sub hl [0, 1, 3, 4, 5, 7] rfl)
    · replace hf := gneg hf h10
      refine lv_iload hx hb (D_21 W_prog_15_method_147_code_32 24 rfl rfl) (lv_at hl 6 rfl) ?_
      obtain ⟨g11, hf⟩ := gif hf
      refine z0le (tgt := 158) hx hb g11 (D_158 W_prog_15_method_147_code_32 26 rfl rfl rfl) (by decide) (fun h12 => ?_) (fun h12 => ?_)
      · replace hf := gpos hf h12
        exact b_M_event_2_158 X hf hZ hS (lv_sub hl [0, 1, 3, 4, 5, 7] rfl)
      · replace hf := gneg hf h12
        refine lv_aload_n hx hb (D_42 W_prog_15_method_147_code_32 29 rfl rfl) rfl (lv_at hl 1 rfl) ?_
        refine zget (ci := 14) (C := RX14) (T := TX14) (v := .int (iI (F 14 0 94))) (k := 94) hx hb hts inW_14 hown hK hZ (by decide) (by decide) rfl (by decide) k_11_92 rfl (D_180 W_prog_15_method_147_code_32 30 rfl rfl rfl) ?_
        refine lv_sipush (v := iI 400) hx hb (D_17 W_prog_15_method_147_code_64 1 rfl rfl rfl) (by decide) ?_
        obtain ⟨g13, hf⟩ := gif hf
        refine zne (tgt := 79) hx hb g13 (by decide) (D_160 W_prog_15_method_147_code_64 4 rfl rfl rfl) (by decide) (fun h14 => ?_) (fun h14 => ?_)
        · replace hf := gneg hf h14
          refine lv_aload_n hx hb (D_42 W_prog_15_method_147_code_64 15 rfl rfl) rfl (lv_at hl 1 rfl) ?_
          refine zget (ci := 14) (C := RX14) (T := TX14) (v := .ref (ad 14 0 (82 + 1))) (k := 82) hx hb hts inW_14 hown hK hZ (by decide) (by decide) rfl (by decide) k_11_80 rfl (D_180 W_prog_15_method_147_code_64 16 rfl rfl rfl) ?_
          refine lv_aload_n hx hb (D_42 W_prog_15_method_147_code_64 19 rfl rfl) rfl (lv_at hl 1 rfl) ?_
          refine zget (ci := 14) (C := RX14) (T := TX14) (v := .int (iI (F 14 0 94))) (k := 94) hx hb hts inW_14 hown hK hZ (by decide) (by decide) rfl (by decide) k_11_92 rfl (D_180 W_prog_15_method_147_code_64 20 rfl rfl rfl) ?_
          refine lv_iload_n hx hb (D_27 W_prog_15_method_147_code_64 23 rfl rfl) rfl (lv_at hl 2 rfl) ?_
          obtain ⟨g15, hf⟩ := gif hf
          refine zast (ci := 14) (k := 82) hx hb hK rfl hZ hS (by decide) (by decide) rfl (Nat.le_of_ble_eq_true rfl) g15.1 g15.2 (D_79 W_prog_15_method_147_code_64 24 rfl rfl) (fun H16 locs16 hZ16 hS16 => ?_)
          refine lv_aload_n hx hb (D_42 W_prog_15_method_147_code_64 25 rfl rfl) rfl (lv_at hl 1 rfl) ?_
          refine zget (ci := 14) (C := RX14) (T := TX14) (v := .ref (ad 14 0 (83 + 1))) (k := 83) hx hb hts inW_14 hown hK hZ16 (by decide) (by decide) rfl (by decide) k_11_81 rfl (D_180 W_prog_15_method_147_code_64 26 rfl rfl rfl) ?_
          refine lv_aload_n hx hb (D_42 W_prog_15_method_147_code_64 29 rfl rfl) rfl (lv_at hl 1 rfl) ?_
          refine zget (ci := 14) (C := RX14) (T := TX14) (v := .int (iI (F 14 0 94))) (k := 94) hx hb hts inW_14 hown hK hZ16 (by decide) (by decide) rfl (by decide) k_11_92 rfl (D_180 W_prog_15_method_147_code_64 30 rfl rfl rfl) ?_
          refine lv_iload hx hb (D_21 W_prog_15_method_147_code_96 1 rfl rfl) (lv_at hl 0 rfl) ?_
          refine zast (ci := 14) (k := 83) hx hb hK rfl hZ16 hS16 (by decide) (by decide) rfl (Nat.le_of_ble_eq_true rfl) g15.1 g15.2 (D_79 W_prog_15_method_147_code_96 3 rfl rfl) (fun H17 locs17 hZ17 hS17 => ?_)
          refine lv_aload_n hx hb (D_42 W_prog_15_method_147_code_96 4 rfl rfl) rfl (lv_at hl 1 rfl) ?_
          refine zget (ci := 14) (C := RX14) (T := TX14) (v := .ref (ad 14 0 (84 + 1))) (k := 84) hx hb hts inW_14 hown hK hZ17 (by decide) (by decide) rfl (by decide) k_11_82 rfl (D_180 W_prog_15_method_147_code_96 5 rfl rfl rfl) ?_
          refine lv_aload_n hx hb (D_42 W_prog_15_method_147_code_96 8 rfl rfl) rfl (lv_at hl 1 rfl) ?_
          refine zget (ci := 14) (C := RX14) (T := TX14) (v := .int (iI (F 14 0 94))) (k := 94) hx hb hts inW_14 hown hK hZ17 (by decide) (by decide) rfl (by decide) k_11_92 rfl (D_180 W_prog_15_method_147_code_96 9 rfl rfl rfl) ?_
          refine lv_iload hx hb (D_21 W_prog_15_method_147_code_96 12 rfl rfl) (lv_at hl 5 rfl) ?_
          refine zast (ci := 14) (k := 84) hx hb hK rfl hZ17 hS17 (by decide) (by decide) rfl (Nat.le_of_ble_eq_true rfl) g15.1 g15.2 (D_79 W_prog_15_method_147_code_96 14 rfl rfl) (fun H18 locs18 hZ18 hS18 => ?_)
          refine lv_aload_n hx hb (D_42 W_prog_15_method_147_code_96 15 rfl rfl) rfl (lv_at hl 1 rfl) ?_
          refine zget (ci := 14) (C := RX14) (T := TX14) (v := .ref (ad 14 0 (85 + 1))) (k := 85) hx hb hts inW_14 hown hK hZ18 (by decide) (by decide) rfl (by decide) k_11_83 rfl (D_180 W_prog_15_method_147_code_96 16 rfl rfl rfl) ?_
          refine lv_aload_n hx hb (D_42 W_prog_15_method_147_code_96 19 rfl rfl) rfl (lv_at hl 1 rfl) ?_
          refine zget (ci := 14) (C := RX14) (T := TX14) (v := .int (iI (F 14 0 94))) (k := 94) hx hb hts inW_14 hown hK hZ18 (by decide) (by decide) rfl (by decide) k_11_92 rfl (D_180 W_prog_15_method_147_code_96 20 rfl rfl rfl) ?_
          refine lv_iload hx hb (D_21 W_prog_15_method_147_code_96 23 rfl rfl) (lv_at hl 6 rfl) ?_
          refine zast (ci := 14) (k := 85) hx hb hK rfl hZ18 hS18 (by decide) (by decide) rfl (Nat.le_of_ble_eq_true rfl) g15.1 g15.2 (D_79 W_prog_15_method_147_code_96 25 rfl rfl) (fun H19 locs19 hZ19 hS19 => ?_)
          refine lv_aload_n hx hb (D_42 W_prog_15_method_147_code_96 26 rfl rfl) rfl (lv_at hl 1 rfl) ?_
          refine zget (ci := 14) (C := RX14) (T := TX14) (v := .ref (ad 14 0 (86 + 1))) (k := 86) hx hb hts inW_14 hown hK hZ19 (by decide) (by decide) rfl (by decide) k_11_84 rfl (D_180 W_prog_15_method_147_code_96 27 rfl rfl rfl) ?_
          refine lv_aload_n hx hb (D_42 W_prog_15_method_147_code_96 30 rfl rfl) rfl (lv_at hl 1 rfl) ?_
          refine zget (ci := 14) (C := RX14) (T := TX14) (v := .int (iI (F 14 0 94))) (k := 94) hx hb hts inW_14 hown hK hZ19 (by decide) (by decide) rfl (by decide) k_11_92 rfl (D_180 W_prog_15_method_147_code_96 31 rfl rfl rfl) ?_
          refine lv_lload hx hb (D_22 W_prog_15_method_147_code_128 2 rfl rfl) (lv_at hl 7 rfl) ?_
          refine zlast (ci := 14) (k := 86) hx hb hK rfl hZ19 hS19 (by decide) (by decide) rfl (Nat.le_of_ble_eq_true rfl) g15.1 g15.2 (D_80 W_prog_15_method_147_code_128 4 rfl rfl) (fun H20 locs20 hZ20 hS20 => ?_)
          refine lv_aload_n hx hb (D_42 W_prog_15_method_147_code_128 5 rfl rfl) rfl (lv_at hl 1 rfl) ?_
          refine zget (ci := 14) (C := RX14) (T := TX14) (v := .ref (ad 14 0 (87 + 1))) (k := 87) hx hb hts inW_14 hown hK hZ20 (by decide) (by decide) rfl (by decide) k_11_85 rfl (D_180 W_prog_15_method_147_code_128 6 rfl rfl rfl) ?_
          refine lv_aload_n hx hb (D_42 W_prog_15_method_147_code_128 9 rfl rfl) rfl (lv_at hl 1 rfl) ?_
          refine zget (ci := 14) (C := RX14) (T := TX14) (v := .int (iI (F 14 0 94))) (k := 94) hx hb hts inW_14 hown hK hZ20 (by decide) (by decide) rfl (by decide) k_11_92 rfl (D_180 W_prog_15_method_147_code_128 10 rfl rfl rfl) ?_
          refine lv_ldc2 hx hb hown (hts _ k_12_105) (D_20 W_prog_15_method_147_code_128 13 rfl rfl rfl) ?_
          refine W.eq (g2 := F0 m 144 ls [.long (lI (-1)), .int (iI (F 14 0 94)), .ref (ad 14 0 (87 + 1))]) rfl ?_
          refine zlast (ci := 14) (k := 87) hx hb hK rfl hZ20 hS20 (by decide) (by decide) rfl (Nat.le_of_ble_eq_true rfl) g15.1 g15.2 (D_80 W_prog_15_method_147_code_128 16 rfl rfl) (fun H21 locs21 hZ21 hS21 => ?_)
          refine lv_aload_n hx hb (D_42 W_prog_15_method_147_code_128 17 rfl rfl) rfl (lv_at hl 1 rfl) ?_
          refine lv_dup hx hb (D_89 W_prog_15_method_147_code_128 18 rfl rfl) rfl ?_
          refine zget (ci := 14) (C := RX14) (T := TX14) (v := .int (iI (F 14 0 94))) (k := 94) hx hb hts inW_14 hown hK hZ21 (by decide) (by decide) rfl (by decide) k_11_92 rfl (D_180 W_prog_15_method_147_code_128 19 rfl rfl rfl) ?_
          refine lv_iconst (v := iI 1) hx hb (D_4 W_prog_15_method_147_code_128 22 rfl rfl) rfl ?_
          refine zadd hx hb (D_96 W_prog_15_method_147_code_128 23 rfl rfl) ?_
          refine zput (ci := 14) (C := RX14) (T := TX14) (k := 94) (v := ((F 14 0 94) + 1)) (w := .int (iI ((F 14 0 94) + 1))) hx hb hts inW_14 tyX14 tyX14_ok nmX14 hown hK hZ21 hS21 (by decide) (by decide) rfl (by decide) k_11_92 rfl (fun G h => congrArg (fun q => Value.int (iI q)) h) rfl rfl (zno (by decide)) (D_181 W_prog_15_method_147_code_128 24 rfl rfl rfl) (fun H22 locs22 hZ22 hS22 => ?_)
          refine lv_goto (tgt := 237) hx hb (D_167 W_prog_15_method_147_code_128 27 rfl rfl rfl) (by decide) ?_
          exact b_M_event_2_237 X hf hZ22 hS22 (lv_sub hl [] rfl)
        · replace hf := gpos hf h14
          refine lv_aload_n hx hb (D_42 W_prog_15_method_147_code_64 7 rfl rfl) rfl (lv_at hl 1 rfl) ?_
          refine lv_iconst (v := iI 3) hx hb (D_6 W_prog_15_method_147_code_64 8 rfl rfl) rfl ?_
          refine lv_iload hx hb (D_21 W_prog_15_method_147_code_64 9 rfl rfl) (lv_at hl 8 rfl) ?_
          obtain ⟨r23, F23, B23, hc23, hf⟩ := gbind hf
          refine va_callv (va_runV (As := [.int (iI 3), .int (iI l8)]) (rest := []) ⟨hx, hb, hml, hown, hts⟩ (c_M_failByte (l := l) hc23) (cwV 2 hts (gdV k_13_19 k_13_21 ks_153 k_1_9 k_13_22) rfl rfl rfl (by decide +kernel) ⟨Nat.le_of_ble_eq_true rfl, Nat.le_of_ble_eq_true rfl⟩) (zPV X hZ hS (ci := 14) (by decide) (by decide) (r := (RX14, TX14, 107)) rfl [.int (iI 3), .int (iI l8)]) rfl rfl hl.1 rfl (lv_room (Nat.le_of_ble_eq_true rfl)) (D_182 W_prog_15_method_147_code_64 11 rfl rfl rfl) ⟨Nat.le_of_ble_eq_true rfl, Nat.le_of_ble_eq_true rfl⟩) hS (fun q _ h => zAin X hS q h) (zAin X hS) (fun u23 t23 H23 locs23 ht23 hv23 hw23 hB23 hz23 hk23 hS23 => ?_)
          have hZ23 := zBack X ht23 hB23
          cases hf
          exact W.vret hx hb hr (fun t ht hW => ⟨⟨(), rfl, trivial, by rw [ht]; exact hZ23, va_K.moved hW.alike hK⟩, hS23.F ht⟩) hS23.2.2 (D_177 W_prog_15_method_147_code_64 14 rfl rfl) hlk

def f_M_event_2 (K : Nat) (l1 : Int) (l2 : Int) (l3 : Int) (l4 : Int) (l5 : Int) (l6 : Int) (l8 : Int) (F : zF) (B : zB) : zO := if r32 l3 then (if l3 < 192 then f_M_event_2_42 K (zrm l3 16) l1 l2 l3 l4 l5 l6 l8 F B else (if 208 ≤ l3 then f_M_event_2_42 K (zrm l3 16) l1 l2 l3 l4 l5 l6 l8 F B else if 0 ≤ l1 ∧ l1 < 8 then if r32 (B 14 0 88 l1) then (if 0 ≤ (B 14 0 88 l1) then f_M_event_2_237 K F B else f_M_event_2_237 K F (zup4 B 14 0 88 l1 (zrm l4 4))) else none else none)) else none
set_option maxHeartbeats 4000000 in
set_option maxRecDepth 100000 in
theorem c_M_event_2 {l : Launch} {D : va_G} {ca : Nat → ClassId} {ad : Nat → Int → Nat → Nat} {L : List Nat} {aS vS : Nat → Nat} {sz K : Nat}  {l1 : Int} {l2 : Int} {l3 : Int} {l4 : Int} {l5 : Int} {l6 : Int} {l8 : Int} {F F9 : zF} {B B9 : zB} {r : Int} (hf : f_M_event_2 K l1 l2 l3 l4 l5 l6 l8 F B = some (r, F9, B9)) : Met l ({ cls := "StaveHouseModel", name := "event", desc := "(IIIIIJI)V" } : Jvm.MethodName) (Cond.code ({ cls := "StaveHouseModel", name := "event", desc := "(IIIIIJI)V" } : Jvm.MethodName) prog_15_method_147_code 11 (Option.none : Option Jvm.ClassFile.FieldType) :: wAll) ({ frames := 1, cells := 0, slots := 0, locals := 22 } : Room) (va_Pc [.ref (ad 14 0 0), .int (iI l1), .int (iI l2), .int (iI l3), .int (iI l4), .int (iI l5), .long (lI l6), .int (iI l8)] (zPre D ca ad lnM nM L aS vS F B sz)) (Q_M_event_2 D ca ad L r F9 B9 (zA L sz)) 0 0 (zA L sz) := by
  refine zMet (Qc := Q_M_event_2 D ca ad L r F9 B9) (lv := [(0, .ref (ad 14 0 0)), (1, .int (iI l1)), (2, .int (iI l2)), (3, .int (iI l3)), (4, .int (iI l4)), (5, .int (iI l5)), (6, .long (lI l6)), (8, .int (iI l8))]) (by decide) (Nat.le_of_ble_eq_true rfl) rfl (fun A p e s m below meth c ls X hZ hS hl => ?_)
  obtain ⟨hx, hb, hr, hml, hown, hts, hlk, hK, hA, hL, hX⟩ := id X
  replace hf : (if r32 l3 then (if l3 < 192 then f_M_event_2_42 K (zrm l3 16) l1 l2 l3 l4 l5 l6 l8 F B else (if 208 ≤ l3 then f_M_event_2_42 K (zrm l3 16) l1 l2 l3 l4 l5 l6 l8 F B else if 0 ≤ l1 ∧ l1 < 8 then if r32 (B 14 0 88 l1) then (if 0 ≤ (B 14 0 88 l1) then f_M_event_2_237 K F B else f_M_event_2_237 K F (zup4 B 14 0 88 l1 (zrm l4 4))) else none else none)) else none) = some (r, F9, B9) := hf
  refine lv_iload_n hx hb (D_29 W_prog_15_method_147_code_0 0 rfl rfl) rfl (lv_at hl 3 rfl) ?_
  refine lv_bipush (v := iI 16) hx hb (D_16 W_prog_15_method_147_code_0 1 rfl rfl rfl) (by decide) ?_
  refine zrm_r hx hb (by decide) (D_112 W_prog_15_method_147_code_0 3 rfl rfl) ?_
  refine lv_istore (lv' := [(9, .int (iI (zrm l3 16))), (0, .ref (ad 14 0 0)), (1, .int (iI l1)), (2, .int (iI l2)), (3, .int (iI l3)), (4, .int (iI l4)), (5, .int (iI l5)), (6, .long (lI l6)), (8, .int (iI l8))]) hx hb (D_54 W_prog_15_method_147_code_0 4 rfl rfl) hl (by decide) rfl (fun ls hl => ?_)
  refine lv_iload_n hx hb (D_29 W_prog_15_method_147_code_0 6 rfl rfl) rfl (lv_at hl 4 rfl) ?_
  refine lv_sipush (v := iI 192) hx hb (D_17 W_prog_15_method_147_code_0 7 rfl rfl rfl) (by decide) ?_
  obtain ⟨g1, hf⟩ := gif hf
  refine zlt (tgt := 42) hx hb g1 (by decide) (D_161 W_prog_15_method_147_code_0 10 rfl rfl rfl) (by decide) (fun h2 => ?_) (fun h2 => ?_)
  · replace hf := gpos hf h2
    exact b_M_event_2_42 X hf hZ hS (lv_sub hl [0, 1, 2, 3, 4, 5, 6, 7, 8] rfl)
  · replace hf := gneg hf h2
    refine lv_iload_n hx hb (D_29 W_prog_15_method_147_code_0 13 rfl rfl) rfl (lv_at hl 4 rfl) ?_
    refine lv_sipush (v := iI 208) hx hb (D_17 W_prog_15_method_147_code_0 14 rfl rfl rfl) (by decide) ?_
    refine zge (tgt := 42) hx hb g1 (by decide) (D_162 W_prog_15_method_147_code_0 17 rfl rfl rfl) (by decide) (fun h3 => ?_) (fun h3 => ?_)
    · replace hf := gpos hf h3
      exact b_M_event_2_42 X hf hZ hS (lv_sub hl [0, 1, 2, 3, 4, 5, 6, 7, 8] rfl)
    · replace hf := gneg hf h3
      refine lv_aload_n hx hb (D_42 W_prog_15_method_147_code_0 20 rfl rfl) rfl (lv_at hl 1 rfl) ?_
      refine zget (ci := 14) (C := RX14) (T := TX14) (v := .ref (ad 14 0 (88 + 1))) (k := 88) hx hb hts inW_14 hown hK hZ (by decide) (by decide) rfl (by decide) k_11_86 rfl (D_180 W_prog_15_method_147_code_0 21 rfl rfl rfl) ?_
      refine lv_iload_n hx hb (D_27 W_prog_15_method_147_code_0 24 rfl rfl) rfl (lv_at hl 2 rfl) ?_
      obtain ⟨g4, hf⟩ := gif hf
      refine zald (ci := 14) (k := 88) hx hb hK rfl hZ (by decide) (by decide) rfl (Nat.le_of_ble_eq_true rfl) g4.1 g4.2 (D_46 W_prog_15_method_147_code_0 25 rfl rfl) ?_
      obtain ⟨g5, hf⟩ := gif hf
      refine z0ge (tgt := 237) hx hb g5 (D_156 W_prog_15_method_147_code_0 26 rfl rfl rfl) (by decide) (fun h6 => ?_) (fun h6 => ?_)
      · replace hf := gpos hf h6
        exact b_M_event_2_237 X hf hZ hS (lv_sub hl [] rfl)
      · replace hf := gneg hf h6
        refine lv_aload_n hx hb (D_42 W_prog_15_method_147_code_0 29 rfl rfl) rfl (lv_at hl 1 rfl) ?_
        refine zget (ci := 14) (C := RX14) (T := TX14) (v := .ref (ad 14 0 (88 + 1))) (k := 88) hx hb hts inW_14 hown hK hZ (by decide) (by decide) rfl (by decide) k_11_86 rfl (D_180 W_prog_15_method_147_code_0 30 rfl rfl rfl) ?_
        refine lv_iload_n hx hb (D_27 W_prog_15_method_147_code_32 1 rfl rfl) rfl (lv_at hl 2 rfl) ?_
        refine lv_iload hx hb (D_21 W_prog_15_method_147_code_32 2 rfl rfl) (lv_at hl 5 rfl) ?_
        refine lv_iconst (v := iI 4) hx hb (D_7 W_prog_15_method_147_code_32 4 rfl rfl) rfl ?_
        refine zrm_r hx hb (by decide) (D_112 W_prog_15_method_147_code_32 5 rfl rfl) ?_
        refine zast (ci := 14) (k := 88) hx hb hK rfl hZ hS (by decide) (by decide) rfl (Nat.le_of_ble_eq_true rfl) g4.1 g4.2 (D_79 W_prog_15_method_147_code_32 6 rfl rfl) (fun H7 locs7 hZ7 hS7 => ?_)
        refine lv_goto (tgt := 237) hx hb (D_167 W_prog_15_method_147_code_32 7 rfl rfl rfl) (by decide) ?_
        exact b_M_event_2_237 X hf hZ7 hS7 (lv_sub hl [] rfl)

abbrev Q_M_keep (D : va_G) (ca : Nat → ClassId) (ad : Nat → Int → Nat → Nat) (L : List Nat) (r : Int) (F : zF) (B : zB) (A : Nat → Prop) : Array Value → State → Outcome → State → Prop := va_Qv (S := Unit) (fun _ => True) (fun _ => zPo D ca ad lnM nM L F B A) A
def f_M_keep_45 (K : Nat) : Nat → Int → zF → zB → zO
  | 0, _, _, _ => none
  | n + 1, l1, F, B => if r32 l1 then if r32 (F 14 0 94) then (if (F 14 0 94) ≤ l1 then some (0, F, B) else if 0 ≤ l1 ∧ l1 < 400 then f_M_keep_45 K n (l1 + 1) F (zup4 (zup4 (zup4 (zup4 (zup4 (zup4 B 14 0 75 l1 (B 14 0 82 l1)) 14 0 76 l1 ((zup4 B 14 0 75 l1 (B 14 0 82 l1)) 14 0 83 l1)) 14 0 77 l1 ((zup4 (zup4 B 14 0 75 l1 (B 14 0 82 l1)) 14 0 76 l1 ((zup4 B 14 0 75 l1 (B 14 0 82 l1)) 14 0 83 l1)) 14 0 84 l1)) 14 0 78 l1 ((zup4 (zup4 (zup4 B 14 0 75 l1 (B 14 0 82 l1)) 14 0 76 l1 ((zup4 B 14 0 75 l1 (B 14 0 82 l1)) 14 0 83 l1)) 14 0 77 l1 ((zup4 (zup4 B 14 0 75 l1 (B 14 0 82 l1)) 14 0 76 l1 ((zup4 B 14 0 75 l1 (B 14 0 82 l1)) 14 0 83 l1)) 14 0 84 l1)) 14 0 85 l1)) 14 0 79 l1 ((zup4 (zup4 (zup4 (zup4 B 14 0 75 l1 (B 14 0 82 l1)) 14 0 76 l1 ((zup4 B 14 0 75 l1 (B 14 0 82 l1)) 14 0 83 l1)) 14 0 77 l1 ((zup4 (zup4 B 14 0 75 l1 (B 14 0 82 l1)) 14 0 76 l1 ((zup4 B 14 0 75 l1 (B 14 0 82 l1)) 14 0 83 l1)) 14 0 84 l1)) 14 0 78 l1 ((zup4 (zup4 (zup4 B 14 0 75 l1 (B 14 0 82 l1)) 14 0 76 l1 ((zup4 B 14 0 75 l1 (B 14 0 82 l1)) 14 0 83 l1)) 14 0 77 l1 ((zup4 (zup4 B 14 0 75 l1 (B 14 0 82 l1)) 14 0 76 l1 ((zup4 B 14 0 75 l1 (B 14 0 82 l1)) 14 0 83 l1)) 14 0 84 l1)) 14 0 85 l1)) 14 0 86 l1)) 14 0 80 l1 ((zup4 (zup4 (zup4 (zup4 (zup4 B 14 0 75 l1 (B 14 0 82 l1)) 14 0 76 l1 ((zup4 B 14 0 75 l1 (B 14 0 82 l1)) 14 0 83 l1)) 14 0 77 l1 ((zup4 (zup4 B 14 0 75 l1 (B 14 0 82 l1)) 14 0 76 l1 ((zup4 B 14 0 75 l1 (B 14 0 82 l1)) 14 0 83 l1)) 14 0 84 l1)) 14 0 78 l1 ((zup4 (zup4 (zup4 B 14 0 75 l1 (B 14 0 82 l1)) 14 0 76 l1 ((zup4 B 14 0 75 l1 (B 14 0 82 l1)) 14 0 83 l1)) 14 0 77 l1 ((zup4 (zup4 B 14 0 75 l1 (B 14 0 82 l1)) 14 0 76 l1 ((zup4 B 14 0 75 l1 (B 14 0 82 l1)) 14 0 83 l1)) 14 0 84 l1)) 14 0 85 l1)) 14 0 79 l1 ((zup4 (zup4 (zup4 (zup4 B 14 0 75 l1 (B 14 0 82 l1)) 14 0 76 l1 ((zup4 B 14 0 75 l1 (B 14 0 82 l1)) 14 0 83 l1)) 14 0 77 l1 ((zup4 (zup4 B 14 0 75 l1 (B 14 0 82 l1)) 14 0 76 l1 ((zup4 B 14 0 75 l1 (B 14 0 82 l1)) 14 0 83 l1)) 14 0 84 l1)) 14 0 78 l1 ((zup4 (zup4 (zup4 B 14 0 75 l1 (B 14 0 82 l1)) 14 0 76 l1 ((zup4 B 14 0 75 l1 (B 14 0 82 l1)) 14 0 83 l1)) 14 0 77 l1 ((zup4 (zup4 B 14 0 75 l1 (B 14 0 82 l1)) 14 0 76 l1 ((zup4 B 14 0 75 l1 (B 14 0 82 l1)) 14 0 83 l1)) 14 0 84 l1)) 14 0 85 l1)) 14 0 86 l1)) 14 0 87 l1)) else none) else none else none
set_option maxHeartbeats 4000000 in
set_option maxRecDepth 100000 in
theorem b_M_keep_45 {D : va_G} {ca : Nat → ClassId} {ad : Nat → Int → Nat → Nat} {L : List Nat} {aS vS : Nat → Nat} {A : Nat → Prop} {p : Program} {l : Launch} {e : Env} {s : State} {m : MethodId} {args : Array Value} {below : List Frame} {meth : Method} {c : Code} {K : Nat} {r : Int} {F9 : zF} {B9 : zB} (X : zX D ca L aS vS A p s m args meth c prog_15_method_143_code 2 (Option.none : Option Jvm.ClassFile.FieldType) "StaveHouseModel") : ∀ {n : Nat} {l1 : Int} {F : zF} {B : zB} {H : Heap} {locs : List Loc} {ls : Array Slot}, f_M_keep_45 K n l1 F B = some (r, F9, B9) → zH D ca ad lnM nM L F B A H → va_S A s.heap H locs → lv_has ls 2 [(1, .int (iI l1)), (0, .ref (ad 14 0 0))] → W p l e ({ frames := 0, cells := 0, slots := 0, locals := 0 } : Room) s m args below meth c H locs 0 0 (MQ below (Q_M_keep D ca ad L r F9 B9 A) args s 0 0 A) (F0 m 45 ls []) := by
  obtain ⟨hx, hb, hr, hml, hown, hts, hlk, hK, hA, hL, hX⟩ := id X
  intro n
  induction n with
  | zero =>
    intros
    rename_i hf _ _ _
    cases hf
  | succ n ih =>
    intro l1 F B H locs ls hf hZ hS hl
    replace hf : (if r32 l1 then if r32 (F 14 0 94) then (if (F 14 0 94) ≤ l1 then some (0, F, B) else if 0 ≤ l1 ∧ l1 < 400 then f_M_keep_45 K n (l1 + 1) F (zup4 (zup4 (zup4 (zup4 (zup4 (zup4 B 14 0 75 l1 (B 14 0 82 l1)) 14 0 76 l1 ((zup4 B 14 0 75 l1 (B 14 0 82 l1)) 14 0 83 l1)) 14 0 77 l1 ((zup4 (zup4 B 14 0 75 l1 (B 14 0 82 l1)) 14 0 76 l1 ((zup4 B 14 0 75 l1 (B 14 0 82 l1)) 14 0 83 l1)) 14 0 84 l1)) 14 0 78 l1 ((zup4 (zup4 (zup4 B 14 0 75 l1 (B 14 0 82 l1)) 14 0 76 l1 ((zup4 B 14 0 75 l1 (B 14 0 82 l1)) 14 0 83 l1)) 14 0 77 l1 ((zup4 (zup4 B 14 0 75 l1 (B 14 0 82 l1)) 14 0 76 l1 ((zup4 B 14 0 75 l1 (B 14 0 82 l1)) 14 0 83 l1)) 14 0 84 l1)) 14 0 85 l1)) 14 0 79 l1 ((zup4 (zup4 (zup4 (zup4 B 14 0 75 l1 (B 14 0 82 l1)) 14 0 76 l1 ((zup4 B 14 0 75 l1 (B 14 0 82 l1)) 14 0 83 l1)) 14 0 77 l1 ((zup4 (zup4 B 14 0 75 l1 (B 14 0 82 l1)) 14 0 76 l1 ((zup4 B 14 0 75 l1 (B 14 0 82 l1)) 14 0 83 l1)) 14 0 84 l1)) 14 0 78 l1 ((zup4 (zup4 (zup4 B 14 0 75 l1 (B 14 0 82 l1)) 14 0 76 l1 ((zup4 B 14 0 75 l1 (B 14 0 82 l1)) 14 0 83 l1)) 14 0 77 l1 ((zup4 (zup4 B 14 0 75 l1 (B 14 0 82 l1)) 14 0 76 l1 ((zup4 B 14 0 75 l1 (B 14 0 82 l1)) 14 0 83 l1)) 14 0 84 l1)) 14 0 85 l1)) 14 0 86 l1)) 14 0 80 l1 ((zup4 (zup4 (zup4 (zup4 (zup4 B 14 0 75 l1 (B 14 0 82 l1)) 14 0 76 l1 ((zup4 B 14 0 75 l1 (B 14 0 82 l1)) 14 0 83 l1)) 14 0 77 l1 ((zup4 (zup4 B 14 0 75 l1 (B 14 0 82 l1)) 14 0 76 l1 ((zup4 B 14 0 75 l1 (B 14 0 82 l1)) 14 0 83 l1)) 14 0 84 l1)) 14 0 78 l1 ((zup4 (zup4 (zup4 B 14 0 75 l1 (B 14 0 82 l1)) 14 0 76 l1 ((zup4 B 14 0 75 l1 (B 14 0 82 l1)) 14 0 83 l1)) 14 0 77 l1 ((zup4 (zup4 B 14 0 75 l1 (B 14 0 82 l1)) 14 0 76 l1 ((zup4 B 14 0 75 l1 (B 14 0 82 l1)) 14 0 83 l1)) 14 0 84 l1)) 14 0 85 l1)) 14 0 79 l1 ((zup4 (zup4 (zup4 (zup4 B 14 0 75 l1 (B 14 0 82 l1)) 14 0 76 l1 ((zup4 B 14 0 75 l1 (B 14 0 82 l1)) 14 0 83 l1)) 14 0 77 l1 ((zup4 (zup4 B 14 0 75 l1 (B 14 0 82 l1)) 14 0 76 l1 ((zup4 B 14 0 75 l1 (B 14 0 82 l1)) 14 0 83 l1)) 14 0 84 l1)) 14 0 78 l1 ((zup4 (zup4 (zup4 B 14 0 75 l1 (B 14 0 82 l1)) 14 0 76 l1 ((zup4 B 14 0 75 l1 (B 14 0 82 l1)) 14 0 83 l1)) 14 0 77 l1 ((zup4 (zup4 B 14 0 75 l1 (B 14 0 82 l1)) 14 0 76 l1 ((zup4 B 14 0 75 l1 (B 14 0 82 l1)) 14 0 83 l1)) 14 0 84 l1)) 14 0 85 l1)) 14 0 86 l1)) 14 0 87 l1)) else none) else none else none) = some (r, F9, B9) := hf
    refine lv_iload_n hx hb (D_27 W_prog_15_method_143_code_32 13 rfl rfl) rfl (lv_at hl 0 rfl) ?_
    refine lv_aload_n hx hb (D_42 W_prog_15_method_143_code_32 14 rfl rfl) rfl (lv_at hl 1 rfl) ?_
    refine zget (ci := 14) (C := RX14) (T := TX14) (v := .int (iI (F 14 0 94))) (k := 94) hx hb hts inW_14 hown hK hZ (by decide) (by decide) rfl (by decide) k_11_92 rfl (D_180 W_prog_15_method_143_code_32 15 rfl rfl rfl) ?_
    obtain ⟨g7, hf⟩ := gif hf
    obtain ⟨g8, hf⟩ := gif hf
    refine zge (tgt := 131) hx hb g7 g8 (D_162 W_prog_15_method_143_code_32 18 rfl rfl rfl) (by decide) (fun h9 => ?_) (fun h9 => ?_)
    · replace hf := gpos hf h9
      cases hf
      exact W.vret hx hb hr (fun t ht hW => ⟨⟨(), rfl, trivial, by rw [ht]; exact hZ, va_K.moved hW.alike hK⟩, hS.F ht⟩) hS.2.2 (D_177 W_prog_15_method_143_code_128 3 rfl rfl) hlk
    · replace hf := gneg hf h9
      refine lv_aload_n hx hb (D_42 W_prog_15_method_143_code_32 21 rfl rfl) rfl (lv_at hl 1 rfl) ?_
      refine zget (ci := 14) (C := RX14) (T := TX14) (v := .ref (ad 14 0 (75 + 1))) (k := 75) hx hb hts inW_14 hown hK hZ (by decide) (by decide) rfl (by decide) k_11_73 rfl (D_180 W_prog_15_method_143_code_32 22 rfl rfl rfl) ?_
      refine lv_iload_n hx hb (D_27 W_prog_15_method_143_code_32 25 rfl rfl) rfl (lv_at hl 0 rfl) ?_
      refine lv_aload_n hx hb (D_42 W_prog_15_method_143_code_32 26 rfl rfl) rfl (lv_at hl 1 rfl) ?_
      refine zget (ci := 14) (C := RX14) (T := TX14) (v := .ref (ad 14 0 (82 + 1))) (k := 82) hx hb hts inW_14 hown hK hZ (by decide) (by decide) rfl (by decide) k_11_80 rfl (D_180 W_prog_15_method_143_code_32 27 rfl rfl rfl) ?_
      refine lv_iload_n hx hb (D_27 W_prog_15_method_143_code_32 30 rfl rfl) rfl (lv_at hl 0 rfl) ?_
      obtain ⟨g10, hf⟩ := gif hf
      refine zald (ci := 14) (k := 82) hx hb hK rfl hZ (by decide) (by decide) rfl (Nat.le_of_ble_eq_true rfl) g10.1 g10.2 (D_46 W_prog_15_method_143_code_32 31 rfl rfl) ?_
      refine zast (ci := 14) (k := 75) hx hb hK rfl hZ hS (by decide) (by decide) rfl (Nat.le_of_ble_eq_true rfl) g10.1 g10.2 (D_79 W_prog_15_method_143_code_64 0 rfl rfl) (fun H11 locs11 hZ11 hS11 => ?_)
      refine lv_aload_n hx hb (D_42 W_prog_15_method_143_code_64 1 rfl rfl) rfl (lv_at hl 1 rfl) ?_
      refine zget (ci := 14) (C := RX14) (T := TX14) (v := .ref (ad 14 0 (76 + 1))) (k := 76) hx hb hts inW_14 hown hK hZ11 (by decide) (by decide) rfl (by decide) k_11_74 rfl (D_180 W_prog_15_method_143_code_64 2 rfl rfl rfl) ?_
      refine lv_iload_n hx hb (D_27 W_prog_15_method_143_code_64 5 rfl rfl) rfl (lv_at hl 0 rfl) ?_
      refine lv_aload_n hx hb (D_42 W_prog_15_method_143_code_64 6 rfl rfl) rfl (lv_at hl 1 rfl) ?_
      refine zget (ci := 14) (C := RX14) (T := TX14) (v := .ref (ad 14 0 (83 + 1))) (k := 83) hx hb hts inW_14 hown hK hZ11 (by decide) (by decide) rfl (by decide) k_11_81 rfl (D_180 W_prog_15_method_143_code_64 7 rfl rfl rfl) ?_
      refine lv_iload_n hx hb (D_27 W_prog_15_method_143_code_64 10 rfl rfl) rfl (lv_at hl 0 rfl) ?_
      refine zald (ci := 14) (k := 83) hx hb hK rfl hZ11 (by decide) (by decide) rfl (Nat.le_of_ble_eq_true rfl) g10.1 g10.2 (D_46 W_prog_15_method_143_code_64 11 rfl rfl) ?_
      refine zast (ci := 14) (k := 76) hx hb hK rfl hZ11 hS11 (by decide) (by decide) rfl (Nat.le_of_ble_eq_true rfl) g10.1 g10.2 (D_79 W_prog_15_method_143_code_64 12 rfl rfl) (fun H12 locs12 hZ12 hS12 => ?_)
      refine lv_aload_n hx hb (D_42 W_prog_15_method_143_code_64 13 rfl rfl) rfl (lv_at hl 1 rfl) ?_
      refine zget (ci := 14) (C := RX14) (T := TX14) (v := .ref (ad 14 0 (77 + 1))) (k := 77) hx hb hts inW_14 hown hK hZ12 (by decide) (by decide) rfl (by decide) k_11_75 rfl (D_180 W_prog_15_method_143_code_64 14 rfl rfl rfl) ?_
      refine lv_iload_n hx hb (D_27 W_prog_15_method_143_code_64 17 rfl rfl) rfl (lv_at hl 0 rfl) ?_
      refine lv_aload_n hx hb (D_42 W_prog_15_method_143_code_64 18 rfl rfl) rfl (lv_at hl 1 rfl) ?_
      refine zget (ci := 14) (C := RX14) (T := TX14) (v := .ref (ad 14 0 (84 + 1))) (k := 84) hx hb hts inW_14 hown hK hZ12 (by decide) (by decide) rfl (by decide) k_11_82 rfl (D_180 W_prog_15_method_143_code_64 19 rfl rfl rfl) ?_
      refine lv_iload_n hx hb (D_27 W_prog_15_method_143_code_64 22 rfl rfl) rfl (lv_at hl 0 rfl) ?_
      refine zald (ci := 14) (k := 84) hx hb hK rfl hZ12 (by decide) (by decide) rfl (Nat.le_of_ble_eq_true rfl) g10.1 g10.2 (D_46 W_prog_15_method_143_code_64 23 rfl rfl) ?_
      refine zast (ci := 14) (k := 77) hx hb hK rfl hZ12 hS12 (by decide) (by decide) rfl (Nat.le_of_ble_eq_true rfl) g10.1 g10.2 (D_79 W_prog_15_method_143_code_64 24 rfl rfl) (fun H13 locs13 hZ13 hS13 => ?_)
      refine lv_aload_n hx hb (D_42 W_prog_15_method_143_code_64 25 rfl rfl) rfl (lv_at hl 1 rfl) ?_
      refine zget (ci := 14) (C := RX14) (T := TX14) (v := .ref (ad 14 0 (78 + 1))) (k := 78) hx hb hts inW_14 hown hK hZ13 (by decide) (by decide) rfl (by decide) k_11_76 rfl (D_180 W_prog_15_method_143_code_64 26 rfl rfl rfl) ?_
      refine lv_iload_n hx hb (D_27 W_prog_15_method_143_code_64 29 rfl rfl) rfl (lv_at hl 0 rfl) ?_
      refine lv_aload_n hx hb (D_42 W_prog_15_method_143_code_64 30 rfl rfl) rfl (lv_at hl 1 rfl) ?_
      refine zget (ci := 14) (C := RX14) (T := TX14) (v := .ref (ad 14 0 (85 + 1))) (k := 85) hx hb hts inW_14 hown hK hZ13 (by decide) (by decide) rfl (by decide) k_11_83 rfl (D_180 W_prog_15_method_143_code_64 31 rfl rfl rfl) ?_
      refine lv_iload_n hx hb (D_27 W_prog_15_method_143_code_96 2 rfl rfl) rfl (lv_at hl 0 rfl) ?_
      refine zald (ci := 14) (k := 85) hx hb hK rfl hZ13 (by decide) (by decide) rfl (Nat.le_of_ble_eq_true rfl) g10.1 g10.2 (D_46 W_prog_15_method_143_code_96 3 rfl rfl) ?_
      refine zast (ci := 14) (k := 78) hx hb hK rfl hZ13 hS13 (by decide) (by decide) rfl (Nat.le_of_ble_eq_true rfl) g10.1 g10.2 (D_79 W_prog_15_method_143_code_96 4 rfl rfl) (fun H14 locs14 hZ14 hS14 => ?_)
      refine lv_aload_n hx hb (D_42 W_prog_15_method_143_code_96 5 rfl rfl) rfl (lv_at hl 1 rfl) ?_
      refine zget (ci := 14) (C := RX14) (T := TX14) (v := .ref (ad 14 0 (79 + 1))) (k := 79) hx hb hts inW_14 hown hK hZ14 (by decide) (by decide) rfl (by decide) k_11_77 rfl (D_180 W_prog_15_method_143_code_96 6 rfl rfl rfl) ?_
      refine lv_iload_n hx hb (D_27 W_prog_15_method_143_code_96 9 rfl rfl) rfl (lv_at hl 0 rfl) ?_
      refine lv_aload_n hx hb (D_42 W_prog_15_method_143_code_96 10 rfl rfl) rfl (lv_at hl 1 rfl) ?_
      refine zget (ci := 14) (C := RX14) (T := TX14) (v := .ref (ad 14 0 (86 + 1))) (k := 86) hx hb hts inW_14 hown hK hZ14 (by decide) (by decide) rfl (by decide) k_11_84 rfl (D_180 W_prog_15_method_143_code_96 11 rfl rfl rfl) ?_
      refine lv_iload_n hx hb (D_27 W_prog_15_method_143_code_96 14 rfl rfl) rfl (lv_at hl 0 rfl) ?_
      refine zlald (ci := 14) (k := 86) hx hb hK rfl hZ14 (by decide) (by decide) rfl (Nat.le_of_ble_eq_true rfl) g10.1 g10.2 (D_47 W_prog_15_method_143_code_96 15 rfl rfl) ?_
      refine zlast (ci := 14) (k := 79) hx hb hK rfl hZ14 hS14 (by decide) (by decide) rfl (Nat.le_of_ble_eq_true rfl) g10.1 g10.2 (D_80 W_prog_15_method_143_code_96 16 rfl rfl) (fun H15 locs15 hZ15 hS15 => ?_)
      refine lv_aload_n hx hb (D_42 W_prog_15_method_143_code_96 17 rfl rfl) rfl (lv_at hl 1 rfl) ?_
      refine zget (ci := 14) (C := RX14) (T := TX14) (v := .ref (ad 14 0 (80 + 1))) (k := 80) hx hb hts inW_14 hown hK hZ15 (by decide) (by decide) rfl (by decide) k_11_78 rfl (D_180 W_prog_15_method_143_code_96 18 rfl rfl rfl) ?_
      refine lv_iload_n hx hb (D_27 W_prog_15_method_143_code_96 21 rfl rfl) rfl (lv_at hl 0 rfl) ?_
      refine lv_aload_n hx hb (D_42 W_prog_15_method_143_code_96 22 rfl rfl) rfl (lv_at hl 1 rfl) ?_
      refine zget (ci := 14) (C := RX14) (T := TX14) (v := .ref (ad 14 0 (87 + 1))) (k := 87) hx hb hts inW_14 hown hK hZ15 (by decide) (by decide) rfl (by decide) k_11_85 rfl (D_180 W_prog_15_method_143_code_96 23 rfl rfl rfl) ?_
      refine lv_iload_n hx hb (D_27 W_prog_15_method_143_code_96 26 rfl rfl) rfl (lv_at hl 0 rfl) ?_
      refine zlald (ci := 14) (k := 87) hx hb hK rfl hZ15 (by decide) (by decide) rfl (Nat.le_of_ble_eq_true rfl) g10.1 g10.2 (D_47 W_prog_15_method_143_code_96 27 rfl rfl) ?_
      refine zlast (ci := 14) (k := 80) hx hb hK rfl hZ15 hS15 (by decide) (by decide) rfl (Nat.le_of_ble_eq_true rfl) g10.1 g10.2 (D_80 W_prog_15_method_143_code_96 28 rfl rfl) (fun H16 locs16 hZ16 hS16 => ?_)
      refine lv_iinc (v := iI (l1 + 1)) (lv' := [(1, .int (iI (l1 + 1))), (0, .ref (ad 14 0 0))]) hx hb d_15_143_125 hl (k := 0) rfl (iI_add _ 1) (by decide) rfl (fun ls hl => ?_)
      refine lv_goto (tgt := 45) hx hb (D_167 W_prog_15_method_143_code_128 0 rfl rfl rfl) (by decide) ?_
      exact ih hf hZ16 hS16 (lv_sub hl [0, 1] rfl)

def f_M_keep_7 (K : Nat) : Nat → Int → zF → zB → zO
  | 0, _, _, _ => none
  | n + 1, l1, F, B => if r32 l1 then (if 8 ≤ l1 then f_M_keep_45 K K 0 F B else if 0 ≤ l1 ∧ l1 < 8 then f_M_keep_7 K n (l1 + 1) F (zup4 (zup4 B 14 0 73 l1 (B 14 0 74 l1)) 14 0 81 l1 ((zup4 B 14 0 73 l1 (B 14 0 74 l1)) 14 0 88 l1)) else none) else none
set_option maxHeartbeats 4000000 in
set_option maxRecDepth 100000 in
theorem b_M_keep_7 {D : va_G} {ca : Nat → ClassId} {ad : Nat → Int → Nat → Nat} {L : List Nat} {aS vS : Nat → Nat} {A : Nat → Prop} {p : Program} {l : Launch} {e : Env} {s : State} {m : MethodId} {args : Array Value} {below : List Frame} {meth : Method} {c : Code} {K : Nat} {r : Int} {F9 : zF} {B9 : zB} (X : zX D ca L aS vS A p s m args meth c prog_15_method_143_code 2 (Option.none : Option Jvm.ClassFile.FieldType) "StaveHouseModel") : ∀ {n : Nat} {l1 : Int} {F : zF} {B : zB} {H : Heap} {locs : List Loc} {ls : Array Slot}, f_M_keep_7 K n l1 F B = some (r, F9, B9) → zH D ca ad lnM nM L F B A H → va_S A s.heap H locs → lv_has ls 2 [(1, .int (iI l1)), (0, .ref (ad 14 0 0))] → W p l e ({ frames := 0, cells := 0, slots := 0, locals := 0 } : Room) s m args below meth c H locs 0 0 (MQ below (Q_M_keep D ca ad L r F9 B9 A) args s 0 0 A) (F0 m 7 ls []) := by
  obtain ⟨hx, hb, hr, hml, hown, hts, hlk, hK, hA, hL, hX⟩ := id X
  intro n
  induction n with
  | zero =>
    intros
    rename_i hf _ _ _
    cases hf
  | succ n ih =>
    intro l1 F B H locs ls hf hZ hS hl
    replace hf : (if r32 l1 then (if 8 ≤ l1 then f_M_keep_45 K K 0 F B else if 0 ≤ l1 ∧ l1 < 8 then f_M_keep_7 K n (l1 + 1) F (zup4 (zup4 B 14 0 73 l1 (B 14 0 74 l1)) 14 0 81 l1 ((zup4 B 14 0 73 l1 (B 14 0 74 l1)) 14 0 88 l1)) else none) else none) = some (r, F9, B9) := hf
    refine lv_iload_n hx hb (D_27 W_prog_15_method_143_code_0 7 rfl rfl) rfl (lv_at hl 0 rfl) ?_
    refine lv_bipush (v := iI 8) hx hb (D_16 W_prog_15_method_143_code_0 8 rfl rfl rfl) (by decide) ?_
    obtain ⟨g2, hf⟩ := gif hf
    refine zge (tgt := 43) hx hb g2 (by decide) (D_162 W_prog_15_method_143_code_0 10 rfl rfl rfl) (by decide) (fun h3 => ?_) (fun h3 => ?_)
    · replace hf := gpos hf h3
      refine lv_iconst (v := iI 0) hx hb (D_3 W_prog_15_method_143_code_32 11 rfl rfl) rfl ?_
      refine lv_istore_n (lv' := [(1, .int (iI 0)), (0, .ref (ad 14 0 0))]) hx hb (D_60 W_prog_15_method_143_code_32 12 rfl rfl) rfl hl (by decide) rfl (fun ls hl => ?_)
      exact b_M_keep_45 X hf hZ hS (lv_sub hl [0, 1] rfl)
    · replace hf := gneg hf h3
      refine lv_aload_n hx hb (D_42 W_prog_15_method_143_code_0 13 rfl rfl) rfl (lv_at hl 1 rfl) ?_
      refine zget (ci := 14) (C := RX14) (T := TX14) (v := .ref (ad 14 0 (73 + 1))) (k := 73) hx hb hts inW_14 hown hK hZ (by decide) (by decide) rfl (by decide) k_11_71 rfl (D_180 W_prog_15_method_143_code_0 14 rfl rfl rfl) ?_
      refine lv_iload_n hx hb (D_27 W_prog_15_method_143_code_0 17 rfl rfl) rfl (lv_at hl 0 rfl) ?_
      refine lv_aload_n hx hb (D_42 W_prog_15_method_143_code_0 18 rfl rfl) rfl (lv_at hl 1 rfl) ?_
      refine zget (ci := 14) (C := RX14) (T := TX14) (v := .ref (ad 14 0 (74 + 1))) (k := 74) hx hb hts inW_14 hown hK hZ (by decide) (by decide) rfl (by decide) k_11_72 rfl (D_180 W_prog_15_method_143_code_0 19 rfl rfl rfl) ?_
      refine lv_iload_n hx hb (D_27 W_prog_15_method_143_code_0 22 rfl rfl) rfl (lv_at hl 0 rfl) ?_
      obtain ⟨g4, hf⟩ := gif hf
      refine zald (ci := 14) (k := 74) hx hb hK rfl hZ (by decide) (by decide) rfl (Nat.le_of_ble_eq_true rfl) g4.1 g4.2 (D_46 W_prog_15_method_143_code_0 23 rfl rfl) ?_
      refine zast (ci := 14) (k := 73) hx hb hK rfl hZ hS (by decide) (by decide) rfl (Nat.le_of_ble_eq_true rfl) g4.1 g4.2 (D_79 W_prog_15_method_143_code_0 24 rfl rfl) (fun H5 locs5 hZ5 hS5 => ?_)
      refine lv_aload_n hx hb (D_42 W_prog_15_method_143_code_0 25 rfl rfl) rfl (lv_at hl 1 rfl) ?_
      refine zget (ci := 14) (C := RX14) (T := TX14) (v := .ref (ad 14 0 (81 + 1))) (k := 81) hx hb hts inW_14 hown hK hZ5 (by decide) (by decide) rfl (by decide) k_11_79 rfl (D_180 W_prog_15_method_143_code_0 26 rfl rfl rfl) ?_
      refine lv_iload_n hx hb (D_27 W_prog_15_method_143_code_0 29 rfl rfl) rfl (lv_at hl 0 rfl) ?_
      refine lv_aload_n hx hb (D_42 W_prog_15_method_143_code_0 30 rfl rfl) rfl (lv_at hl 1 rfl) ?_
      refine zget (ci := 14) (C := RX14) (T := TX14) (v := .ref (ad 14 0 (88 + 1))) (k := 88) hx hb hts inW_14 hown hK hZ5 (by decide) (by decide) rfl (by decide) k_11_86 rfl (D_180 W_prog_15_method_143_code_0 31 rfl rfl rfl) ?_
      refine lv_iload_n hx hb (D_27 W_prog_15_method_143_code_32 2 rfl rfl) rfl (lv_at hl 0 rfl) ?_
      refine zald (ci := 14) (k := 88) hx hb hK rfl hZ5 (by decide) (by decide) rfl (Nat.le_of_ble_eq_true rfl) g4.1 g4.2 (D_46 W_prog_15_method_143_code_32 3 rfl rfl) ?_
      refine zast (ci := 14) (k := 81) hx hb hK rfl hZ5 hS5 (by decide) (by decide) rfl (Nat.le_of_ble_eq_true rfl) g4.1 g4.2 (D_79 W_prog_15_method_143_code_32 4 rfl rfl) (fun H6 locs6 hZ6 hS6 => ?_)
      refine lv_iinc (v := iI (l1 + 1)) (lv' := [(1, .int (iI (l1 + 1))), (0, .ref (ad 14 0 0))]) hx hb d_15_143_37 hl (k := 0) rfl (iI_add _ 1) (by decide) rfl (fun ls hl => ?_)
      refine lv_goto (tgt := 7) hx hb (D_167 W_prog_15_method_143_code_32 8 rfl rfl rfl) (by decide) ?_
      exact ih hf hZ6 hS6 (lv_sub hl [0, 1] rfl)

def f_M_keep (K : Nat)  (F : zF) (B : zB) : zO := f_M_keep_7 K K 0 (zup3 F 14 0 72 1) B
set_option maxHeartbeats 4000000 in
set_option maxRecDepth 100000 in
theorem c_M_keep {l : Launch} {D : va_G} {ca : Nat → ClassId} {ad : Nat → Int → Nat → Nat} {L : List Nat} {aS vS : Nat → Nat} {sz K : Nat}   {F F9 : zF} {B B9 : zB} {r : Int} (hf : f_M_keep K  F B = some (r, F9, B9)) : Met l ({ cls := "StaveHouseModel", name := "keep", desc := "()V" } : Jvm.MethodName) (Cond.code ({ cls := "StaveHouseModel", name := "keep", desc := "()V" } : Jvm.MethodName) prog_15_method_143_code 2 (Option.none : Option Jvm.ClassFile.FieldType) :: wAll) ({ frames := 0, cells := 0, slots := 0, locals := 0 } : Room) (va_Pc [.ref (ad 14 0 0)] (zPre D ca ad lnM nM L aS vS F B sz)) (Q_M_keep D ca ad L r F9 B9 (zA L sz)) 0 0 (zA L sz) := by
  refine zMet (Qc := Q_M_keep D ca ad L r F9 B9) (lv := [(0, .ref (ad 14 0 0))]) (by decide) (Nat.le_of_ble_eq_true rfl) rfl (fun A p e s m below meth c ls X hZ hS hl => ?_)
  obtain ⟨hx, hb, hr, hml, hown, hts, hlk, hK, hA, hL, hX⟩ := id X
  replace hf : (f_M_keep_7 K K 0 (zup3 F 14 0 72 1) B) = some (r, F9, B9) := hf
  refine lv_aload_n hx hb (D_42 W_prog_15_method_143_code_0 0 rfl rfl) rfl (lv_at hl 0 rfl) ?_
  refine lv_iconst (v := iI 1) hx hb (D_4 W_prog_15_method_143_code_0 1 rfl rfl) rfl ?_
  refine zput (ci := 14) (C := RX14) (T := TX14) (k := 72) (v := 1) (w := .int (iI 1)) hx hb hts inW_14 tyX14 tyX14_ok nmX14 hown hK hZ hS (by decide) (by decide) rfl (by decide) k_11_70 rfl (fun G h => congrArg (fun q => Value.int (iI q)) h) rfl rfl (zno (by decide)) (D_181 W_prog_15_method_143_code_0 2 rfl rfl rfl) (fun H1 locs1 hZ1 hS1 => ?_)
  refine lv_iconst (v := iI 0) hx hb (D_3 W_prog_15_method_143_code_0 5 rfl rfl) rfl ?_
  refine lv_istore_n (lv' := [(1, .int (iI 0)), (0, .ref (ad 14 0 0))]) hx hb (D_60 W_prog_15_method_143_code_0 6 rfl rfl) rfl hl (by decide) rfl (fun ls hl => ?_)
  exact b_M_keep_7 X hf hZ1 hS1 (lv_sub hl [0, 1] rfl)

