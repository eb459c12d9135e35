theorem k_13_175 : (Jvm.Cond.methodLink "StaveHouseModel" (715 : Nat) ({ cls := "StaveHouseModel", name := "strength", desc := "(LStaveHouseModel$Piece;JJ)I" } : Jvm.MethodName)) ∈ wAll := wA_13 (j := 175) rfl rfl
theorem k_13_177 : (Jvm.Cond.instanceMethod ({ cls := "StaveHouseModel", name := "strength", desc := "(LStaveHouseModel$Piece;JJ)I" } : Jvm.MethodName)) ∈ wAll := wA_13 (j := 177) rfl rfl
theorem ks_182 : (Jvm.Cond.selects "StaveHouseModel" ({ cls := "StaveHouseModel", name := "strength", desc := "(LStaveHouseModel$Piece;JJ)I" } : Jvm.MethodName) ({ cls := "StaveHouseModel", name := "strength", desc := "(LStaveHouseModel$Piece;JJ)I" } : Jvm.MethodName)) ∈ wAll := wA_s (j := 182) rfl rfl
theorem k_13_178 : (Jvm.Cond.code ({ cls := "StaveHouseModel", name := "strength", desc := "(LStaveHouseModel$Piece;JJ)I" } : Jvm.MethodName) prog_15_method_79_code (9 : Nat) (Option.some Jvm.ClassFile.FieldType.int)) ∈ wAll := wA_13 (j := 178) rfl rfl
theorem k_13_188 : (Jvm.Cond.methodLink "StaveHouseModel" (719 : Nat) ({ cls := "StaveHouseModel", name := "between", desc := "(LStaveHouseModel$Piece;JJJJ)I" } : Jvm.MethodName)) ∈ wAll := wA_13 (j := 188) rfl rfl
theorem k_13_190 : (Jvm.Cond.instanceMethod ({ cls := "StaveHouseModel", name := "between", desc := "(LStaveHouseModel$Piece;JJJJ)I" } : Jvm.MethodName)) ∈ wAll := wA_13 (j := 190) rfl rfl
theorem ks_183 : (Jvm.Cond.selects "StaveHouseModel" ({ cls := "StaveHouseModel", name := "between", desc := "(LStaveHouseModel$Piece;JJJJ)I" } : Jvm.MethodName) ({ cls := "StaveHouseModel", name := "between", desc := "(LStaveHouseModel$Piece;JJJJ)I" } : Jvm.MethodName)) ∈ wAll := wA_s (j := 183) rfl rfl
theorem k_13_191 : (Jvm.Cond.code ({ cls := "StaveHouseModel", name := "between", desc := "(LStaveHouseModel$Piece;JJJJ)I" } : Jvm.MethodName) prog_15_method_81_code (13 : Nat) (Option.some Jvm.ClassFile.FieldType.int)) ∈ wAll := wA_13 (j := 191) rfl rfl
theorem k_10_2 : (Jvm.Cond.fieldLink "StaveHouseModel" (948 : Nat) "StaveHouseModel$Piece" "made" "I") ∈ wAll := wA_10 (j := 2) rfl rfl
theorem k_13_207 : (Jvm.Cond.methodLink "StaveHouseModel" (1163 : Nat) ({ cls := "StaveHouseModel", name := "mixed", desc := "(LStaveHouseModel$Piece;I)I" } : Jvm.MethodName)) ∈ wAll := wA_13 (j := 207) rfl rfl
theorem k_13_209 : (Jvm.Cond.instanceMethod ({ cls := "StaveHouseModel", name := "mixed", desc := "(LStaveHouseModel$Piece;I)I" } : Jvm.MethodName)) ∈ wAll := wA_13 (j := 209) rfl rfl
theorem ks_185 : (Jvm.Cond.selects "StaveHouseModel" ({ cls := "StaveHouseModel", name := "mixed", desc := "(LStaveHouseModel$Piece;I)I" } : Jvm.MethodName) ({ cls := "StaveHouseModel", name := "mixed", desc := "(LStaveHouseModel$Piece;I)I" } : Jvm.MethodName)) ∈ wAll := wA_s (j := 185) rfl rfl
theorem k_13_210 : (Jvm.Cond.code ({ cls := "StaveHouseModel", name := "mixed", desc := "(LStaveHouseModel$Piece;I)I" } : Jvm.MethodName) prog_15_method_167_code (10 : Nat) (Option.some Jvm.ClassFile.FieldType.int)) ∈ wAll := wA_13 (j := 210) rfl rfl
theorem k_14_4 : (Jvm.Cond.methodLink "StaveHouseModel" (1172 : Nat) ({ cls := "StaveHouseModel", name := "coded", desc := "(LStaveHouseModel$Piece;)I" } : Jvm.MethodName)) ∈ wAll := wA_14 (j := 4) rfl rfl
theorem k_14_6 : (Jvm.Cond.instanceMethod ({ cls := "StaveHouseModel", name := "coded", desc := "(LStaveHouseModel$Piece;)I" } : Jvm.MethodName)) ∈ wAll := wA_14 (j := 6) rfl rfl
theorem ks_187 : (Jvm.Cond.selects "StaveHouseModel" ({ cls := "StaveHouseModel", name := "coded", desc := "(LStaveHouseModel$Piece;)I" } : Jvm.MethodName) ({ cls := "StaveHouseModel", name := "coded", desc := "(LStaveHouseModel$Piece;)I" } : Jvm.MethodName)) ∈ wAll := wA_s (j := 187) rfl rfl
theorem k_14_7 : (Jvm.Cond.code ({ cls := "StaveHouseModel", name := "coded", desc := "(LStaveHouseModel$Piece;)I" } : Jvm.MethodName) prog_15_method_169_code (7 : Nat) (Option.some Jvm.ClassFile.FieldType.int)) ∈ wAll := wA_14 (j := 7) rfl rfl
theorem k_14_21 : (Jvm.Cond.methodLink "StaveHouseModel" (1205 : Nat) ({ cls := "StaveHouseModel", name := "classesAt", desc := "(LStaveHouseModel$Piece;I)V" } : Jvm.MethodName)) ∈ wAll := wA_14 (j := 21) rfl rfl
theorem k_14_23 : (Jvm.Cond.instanceMethod ({ cls := "StaveHouseModel", name := "classesAt", desc := "(LStaveHouseModel$Piece;I)V" } : Jvm.MethodName)) ∈ wAll := wA_14 (j := 23) rfl rfl
theorem ks_189 : (Jvm.Cond.selects "StaveHouseModel" ({ cls := "StaveHouseModel", name := "classesAt", desc := "(LStaveHouseModel$Piece;I)V" } : Jvm.MethodName) ({ cls := "StaveHouseModel", name := "classesAt", desc := "(LStaveHouseModel$Piece;I)V" } : Jvm.MethodName)) ∈ wAll := wA_s (j := 189) rfl rfl
theorem k_14_24 : (Jvm.Cond.code ({ cls := "StaveHouseModel", name := "classesAt", desc := "(LStaveHouseModel$Piece;I)V" } : Jvm.MethodName) prog_15_method_173_code (7 : Nat) (Option.none : Option Jvm.ClassFile.FieldType)) ∈ wAll := wA_14 (j := 24) rfl rfl
theorem k_11_102 : (Jvm.Cond.fieldLink "StaveHouseModel" (1208 : Nat) "StaveHouseModel" "chordKind" "I") ∈ wAll := wA_11 (j := 102) rfl rfl
theorem k_11_103 : (Jvm.Cond.fieldLink "StaveHouseModel" (1211 : Nat) "StaveHouseModel" "root" "I") ∈ wAll := wA_11 (j := 103) rfl rfl
theorem k_14_29 : (Jvm.Cond.methodLink "StaveHouseModel" (1214 : Nat) ({ cls := "StaveHouseModel", name := "kindOn", desc := "(I)I" } : Jvm.MethodName)) ∈ wAll := wA_14 (j := 29) rfl rfl
theorem k_14_31 : (Jvm.Cond.instanceMethod ({ cls := "StaveHouseModel", name := "kindOn", desc := "(I)I" } : Jvm.MethodName)) ∈ wAll := wA_14 (j := 31) rfl rfl
theorem ks_191 : (Jvm.Cond.selects "StaveHouseModel" ({ cls := "StaveHouseModel", name := "kindOn", desc := "(I)I" } : Jvm.MethodName) ({ cls := "StaveHouseModel", name := "kindOn", desc := "(I)I" } : Jvm.MethodName)) ∈ wAll := wA_s (j := 191) rfl rfl
theorem k_14_32 : (Jvm.Cond.code ({ cls := "StaveHouseModel", name := "kindOn", desc := "(I)I" } : Jvm.MethodName) prog_15_method_177_code (8 : Nat) (Option.some Jvm.ClassFile.FieldType.int)) ∈ wAll := wA_14 (j := 32) rfl rfl
theorem k_14_105 : (Jvm.Cond.methodLink "StaveHouseModel" (348 : Nat) ({ cls := "StaveHouseModel", name := "isOneOf", desc := "(Ljava/lang/String;I)Z" } : Jvm.MethodName)) ∈ wAll := wA_14 (j := 105) rfl rfl
theorem k_14_106 : (Jvm.Cond.static ({ cls := "StaveHouseModel", name := "isOneOf", desc := "(Ljava/lang/String;I)Z" } : Jvm.MethodName)) ∈ wAll := wA_14 (j := 106) rfl rfl
theorem k_14_107 : (Jvm.Cond.code ({ cls := "StaveHouseModel", name := "isOneOf", desc := "(Ljava/lang/String;I)Z" } : Jvm.MethodName) prog_15_method_23_code (4 : Nat) (Option.some Jvm.ClassFile.FieldType.boolean)) ∈ wAll := wA_14 (j := 107) rfl rfl
theorem k_14_96 : (Jvm.Cond.methodLink "StaveHouseModel" (343 : Nat) ({ cls := "StaveHouseModel", name := "cutRun", desc := "(I)I" } : Jvm.MethodName)) ∈ wAll := wA_14 (j := 96) rfl rfl
theorem k_14_98 : (Jvm.Cond.instanceMethod ({ cls := "StaveHouseModel", name := "cutRun", desc := "(I)I" } : Jvm.MethodName)) ∈ wAll := wA_14 (j := 98) rfl rfl
theorem ks_197 : (Jvm.Cond.selects "StaveHouseModel" ({ cls := "StaveHouseModel", name := "cutRun", desc := "(I)I" } : Jvm.MethodName) ({ cls := "StaveHouseModel", name := "cutRun", desc := "(I)I" } : Jvm.MethodName)) ∈ wAll := wA_s (j := 197) rfl rfl
theorem k_14_99 : (Jvm.Cond.code ({ cls := "StaveHouseModel", name := "cutRun", desc := "(I)I" } : Jvm.MethodName) prog_15_method_26_code (8 : Nat) (Option.some Jvm.ClassFile.FieldType.int)) ∈ wAll := wA_14 (j := 99) rfl rfl
theorem k_11_20 : (Jvm.Cond.fieldLink "StaveHouseModel" (395 : Nat) "StaveHouseModel" "hadKey" "Z") ∈ wAll := wA_11 (j := 20) rfl rfl
theorem k_10_211 : (Jvm.Cond.fieldLink "StaveHouseModel" (105 : Nat) "StaveHouseModel" "MINOR" "J") ∈ wAll := wA_10 (j := 211) rfl rfl
theorem k_14_112 : (Jvm.Cond.methodLink "StaveHouseModel" (413 : Nat) ({ cls := "StaveHouseModel", name := "isWord", desc := "(J)Z" } : Jvm.MethodName)) ∈ wAll := wA_14 (j := 112) rfl rfl
theorem k_14_114 : (Jvm.Cond.instanceMethod ({ cls := "StaveHouseModel", name := "isWord", desc := "(J)Z" } : Jvm.MethodName)) ∈ wAll := wA_14 (j := 114) rfl rfl
theorem ks_200 : (Jvm.Cond.selects "StaveHouseModel" ({ cls := "StaveHouseModel", name := "isWord", desc := "(J)Z" } : Jvm.MethodName) ({ cls := "StaveHouseModel", name := "isWord", desc := "(J)Z" } : Jvm.MethodName)) ∈ wAll := wA_s (j := 200) rfl rfl
theorem k_14_115 : (Jvm.Cond.code ({ cls := "StaveHouseModel", name := "isWord", desc := "(J)Z" } : Jvm.MethodName) prog_15_method_33_code (3 : Nat) (Option.some Jvm.ClassFile.FieldType.boolean)) ∈ wAll := wA_14 (j := 115) rfl rfl
theorem k_10_209 : (Jvm.Cond.fieldLink "StaveHouseModel" (102 : Nat) "StaveHouseModel" "MAJOR" "J") ∈ wAll := wA_10 (j := 209) rfl rfl
theorem k_15_52 : (Jvm.Cond.methodLink "StaveHouseModel" (764 : Nat) ({ cls := "StaveHouseModel", name := "holds", desc := "(LStaveHouseModel$Piece;I)V" } : Jvm.MethodName)) ∈ wAll := wA_15 (j := 52) rfl rfl
theorem k_15_54 : (Jvm.Cond.instanceMethod ({ cls := "StaveHouseModel", name := "holds", desc := "(LStaveHouseModel$Piece;I)V" } : Jvm.MethodName)) ∈ wAll := wA_15 (j := 54) rfl rfl
theorem ks_241 : (Jvm.Cond.selects "StaveHouseModel" ({ cls := "StaveHouseModel", name := "holds", desc := "(LStaveHouseModel$Piece;I)V" } : Jvm.MethodName) ({ cls := "StaveHouseModel", name := "holds", desc := "(LStaveHouseModel$Piece;I)V" } : Jvm.MethodName)) ∈ wAll := wA_s (j := 241) rfl rfl
theorem k_15_55 : (Jvm.Cond.code ({ cls := "StaveHouseModel", name := "holds", desc := "(LStaveHouseModel$Piece;I)V" } : Jvm.MethodName) prog_15_method_92_code (10 : Nat) (Option.none : Option Jvm.ClassFile.FieldType)) ∈ wAll := wA_15 (j := 55) rfl rfl
theorem k_15_56 : (Jvm.Cond.methodLink "StaveHouseModel" (767 : Nat) ({ cls := "StaveHouseModel", name := "accidentals", desc := "(LStaveHouseModel$Piece;I)V" } : Jvm.MethodName)) ∈ wAll := wA_15 (j := 56) rfl rfl
theorem k_15_58 : (Jvm.Cond.instanceMethod ({ cls := "StaveHouseModel", name := "accidentals", desc := "(LStaveHouseModel$Piece;I)V" } : Jvm.MethodName)) ∈ wAll := wA_15 (j := 58) rfl rfl
theorem ks_242 : (Jvm.Cond.selects "StaveHouseModel" ({ cls := "StaveHouseModel", name := "accidentals", desc := "(LStaveHouseModel$Piece;I)V" } : Jvm.MethodName) ({ cls := "StaveHouseModel", name := "accidentals", desc := "(LStaveHouseModel$Piece;I)V" } : Jvm.MethodName)) ∈ wAll := wA_s (j := 242) rfl rfl
theorem k_15_59 : (Jvm.Cond.code ({ cls := "StaveHouseModel", name := "accidentals", desc := "(LStaveHouseModel$Piece;I)V" } : Jvm.MethodName) prog_15_method_94_code (10 : Nat) (Option.none : Option Jvm.ClassFile.FieldType)) ∈ wAll := wA_15 (j := 59) rfl rfl
theorem k_15_77 : (Jvm.Cond.methodLink "StaveHouseModel" (775 : Nat) ({ cls := "StaveHouseModel", name := "groups", desc := "(LStaveHouseModel$Piece;I)V" } : Jvm.MethodName)) ∈ wAll := wA_15 (j := 77) rfl rfl
theorem k_15_79 : (Jvm.Cond.instanceMethod ({ cls := "StaveHouseModel", name := "groups", desc := "(LStaveHouseModel$Piece;I)V" } : Jvm.MethodName)) ∈ wAll := wA_15 (j := 79) rfl rfl
theorem ks_245 : (Jvm.Cond.selects "StaveHouseModel" ({ cls := "StaveHouseModel", name := "groups", desc := "(LStaveHouseModel$Piece;I)V" } : Jvm.MethodName) ({ cls := "StaveHouseModel", name := "groups", desc := "(LStaveHouseModel$Piece;I)V" } : Jvm.MethodName)) ∈ wAll := wA_s (j := 245) rfl rfl
theorem k_15_80 : (Jvm.Cond.code ({ cls := "StaveHouseModel", name := "groups", desc := "(LStaveHouseModel$Piece;I)V" } : Jvm.MethodName) prog_15_method_101_code (11 : Nat) (Option.none : Option Jvm.ClassFile.FieldType)) ∈ wAll := wA_15 (j := 80) rfl rfl
theorem k_15_64 : (Jvm.Cond.methodLink "StaveHouseModel" (773 : Nat) ({ cls := "StaveHouseModel", name := "ledgers", desc := "(LStaveHouseModel$Piece;II)I" } : Jvm.MethodName)) ∈ wAll := wA_15 (j := 64) rfl rfl
theorem k_15_66 : (Jvm.Cond.instanceMethod ({ cls := "StaveHouseModel", name := "ledgers", desc := "(LStaveHouseModel$Piece;II)I" } : Jvm.MethodName)) ∈ wAll := wA_15 (j := 66) rfl rfl
theorem ks_244 : (Jvm.Cond.selects "StaveHouseModel" ({ cls := "StaveHouseModel", name := "ledgers", desc := "(LStaveHouseModel$Piece;II)I" } : Jvm.MethodName) ({ cls := "StaveHouseModel", name := "ledgers", desc := "(LStaveHouseModel$Piece;II)I" } : Jvm.MethodName)) ∈ wAll := wA_s (j := 244) rfl rfl
theorem k_15_67 : (Jvm.Cond.code ({ cls := "StaveHouseModel", name := "ledgers", desc := "(LStaveHouseModel$Piece;II)I" } : Jvm.MethodName) prog_15_method_98_code (7 : Nat) (Option.some Jvm.ClassFile.FieldType.int)) ∈ wAll := wA_15 (j := 67) rfl rfl
theorem k_15_112 : (Jvm.Cond.methodLink "StaveHouseModel" (1243 : Nat) ({ cls := "StaveHouseModel", name := "isAlone", desc := "(LStaveHouseModel$Piece;III)Z" } : Jvm.MethodName)) ∈ wAll := wA_15 (j := 112) rfl rfl
theorem k_15_113 : (Jvm.Cond.static ({ cls := "StaveHouseModel", name := "isAlone", desc := "(LStaveHouseModel$Piece;III)Z" } : Jvm.MethodName)) ∈ wAll := wA_15 (j := 113) rfl rfl
theorem k_15_114 : (Jvm.Cond.code ({ cls := "StaveHouseModel", name := "isAlone", desc := "(LStaveHouseModel$Piece;III)Z" } : Jvm.MethodName) prog_15_method_192_code (10 : Nat) (Option.some Jvm.ClassFile.FieldType.boolean)) ∈ wAll := wA_15 (j := 114) rfl rfl
theorem k_15_127 : (Jvm.Cond.methodLink "StaveHouseModel" (1246 : Nat) ({ cls := "StaveHouseModel", name := "fault", desc := "(LStaveHouseModel$Piece;IIII)V" } : Jvm.MethodName)) ∈ wAll := wA_15 (j := 127) rfl rfl
theorem k_15_128 : (Jvm.Cond.static ({ cls := "StaveHouseModel", name := "fault", desc := "(LStaveHouseModel$Piece;IIII)V" } : Jvm.MethodName)) ∈ wAll := wA_15 (j := 128) rfl rfl
theorem k_15_129 : (Jvm.Cond.code ({ cls := "StaveHouseModel", name := "fault", desc := "(LStaveHouseModel$Piece;IIII)V" } : Jvm.MethodName) prog_15_method_187_code (5 : Nat) (Option.none : Option Jvm.ClassFile.FieldType)) ∈ wAll := wA_15 (j := 129) rfl rfl
theorem k_15_136 : (Jvm.Cond.methodLink "StaveHouseModel" (1251 : Nat) ({ cls := "StaveHouseModel", name := "isParallel", desc := "(LStaveHouseModel$Piece;IIII)Z" } : Jvm.MethodName)) ∈ wAll := wA_15 (j := 136) rfl rfl
theorem k_15_137 : (Jvm.Cond.static ({ cls := "StaveHouseModel", name := "isParallel", desc := "(LStaveHouseModel$Piece;IIII)Z" } : Jvm.MethodName)) ∈ wAll := wA_15 (j := 137) rfl rfl
theorem k_15_138 : (Jvm.Cond.code ({ cls := "StaveHouseModel", name := "isParallel", desc := "(LStaveHouseModel$Piece;IIII)Z" } : Jvm.MethodName) prog_15_method_189_code (15 : Nat) (Option.some Jvm.ClassFile.FieldType.boolean)) ∈ wAll := wA_15 (j := 138) rfl rfl
theorem k_15_130 : (Jvm.Cond.methodLink "StaveHouseModel" (1248 : Nat) ({ cls := "StaveHouseModel", name := "isCrossed", desc := "(LStaveHouseModel$Piece;III)Z" } : Jvm.MethodName)) ∈ wAll := wA_15 (j := 130) rfl rfl
theorem k_15_131 : (Jvm.Cond.static ({ cls := "StaveHouseModel", name := "isCrossed", desc := "(LStaveHouseModel$Piece;III)Z" } : Jvm.MethodName)) ∈ wAll := wA_15 (j := 131) rfl rfl
theorem k_15_132 : (Jvm.Cond.code ({ cls := "StaveHouseModel", name := "isCrossed", desc := "(LStaveHouseModel$Piece;III)Z" } : Jvm.MethodName) prog_15_method_191_code (4 : Nat) (Option.some Jvm.ClassFile.FieldType.boolean)) ∈ wAll := wA_15 (j := 132) rfl rfl
theorem k_12_178 : (Jvm.Cond.methodLink "StaveHouseModel" (899 : Nat) ({ cls := "StaveHouseModel", name := "plain", desc := "(LStaveHouseModel$Piece;IIII)V" } : Jvm.MethodName)) ∈ wAll := wA_12 (j := 178) rfl rfl
theorem k_12_180 : (Jvm.Cond.instanceMethod ({ cls := "StaveHouseModel", name := "plain", desc := "(LStaveHouseModel$Piece;IIII)V" } : Jvm.MethodName)) ∈ wAll := wA_12 (j := 180) rfl rfl
theorem ks_139 : (Jvm.Cond.selects "StaveHouseModel" ({ cls := "StaveHouseModel", name := "plain", desc := "(LStaveHouseModel$Piece;IIII)V" } : Jvm.MethodName) ({ cls := "StaveHouseModel", name := "plain", desc := "(LStaveHouseModel$Piece;IIII)V" } : Jvm.MethodName)) ∈ wAll := wA_s (j := 139) rfl rfl
theorem k_12_181 : (Jvm.Cond.code ({ cls := "StaveHouseModel", name := "plain", desc := "(LStaveHouseModel$Piece;IIII)V" } : Jvm.MethodName) prog_15_method_118_code (14 : Nat) (Option.none : Option Jvm.ClassFile.FieldType)) ∈ wAll := wA_12 (j := 181) rfl rfl
theorem k_12_135 : (Jvm.Cond.methodLink "StaveHouseModel" (895 : Nat) ({ cls := "StaveHouseModel", name := "trill", desc := "(LStaveHouseModel$Piece;IIII)V" } : Jvm.MethodName)) ∈ wAll := wA_12 (j := 135) rfl rfl
theorem k_12_137 : (Jvm.Cond.instanceMethod ({ cls := "StaveHouseModel", name := "trill", desc := "(LStaveHouseModel$Piece;IIII)V" } : Jvm.MethodName)) ∈ wAll := wA_12 (j := 137) rfl rfl
theorem ks_133 : (Jvm.Cond.selects "StaveHouseModel" ({ cls := "StaveHouseModel", name := "trill", desc := "(LStaveHouseModel$Piece;IIII)V" } : Jvm.MethodName) ({ cls := "StaveHouseModel", name := "trill", desc := "(LStaveHouseModel$Piece;IIII)V" } : Jvm.MethodName)) ∈ wAll := wA_s (j := 133) rfl rfl
theorem k_12_138 : (Jvm.Cond.code ({ cls := "StaveHouseModel", name := "trill", desc := "(LStaveHouseModel$Piece;IIII)V" } : Jvm.MethodName) prog_15_method_119_code (13 : Nat) (Option.none : Option Jvm.ClassFile.FieldType)) ∈ wAll := wA_12 (j := 138) rfl rfl
theorem k_13_2 : (Jvm.Cond.constantLong "StaveHouseModel" (1009 : Nat) (3000 : Int64)) ∈ wAll := wA_13 (j := 2) rfl rfl
theorem k_13_3 : (Jvm.Cond.methodLink "StaveHouseModel" (1023 : Nat) ({ cls := "StaveHouseModel", name := "header", desc := "()J" } : Jvm.MethodName)) ∈ wAll := wA_13 (j := 3) rfl rfl
theorem k_13_5 : (Jvm.Cond.instanceMethod ({ cls := "StaveHouseModel", name := "header", desc := "()J" } : Jvm.MethodName)) ∈ wAll := wA_13 (j := 5) rfl rfl
theorem ks_149 : (Jvm.Cond.selects "StaveHouseModel" ({ cls := "StaveHouseModel", name := "header", desc := "()J" } : Jvm.MethodName) ({ cls := "StaveHouseModel", name := "header", desc := "()J" } : Jvm.MethodName)) ∈ wAll := wA_s (j := 149) rfl rfl
theorem k_13_6 : (Jvm.Cond.code ({ cls := "StaveHouseModel", name := "header", desc := "()J" } : Jvm.MethodName) prog_15_method_141_code (6 : Nat) (Option.some Jvm.ClassFile.FieldType.long)) ∈ wAll := wA_13 (j := 6) rfl rfl
theorem k_13_36 : (Jvm.Cond.methodLink "StaveHouseModel" (1027 : Nat) ({ cls := "StaveHouseModel", name := "isTrack", desc := "()Z" } : Jvm.MethodName)) ∈ wAll := wA_13 (j := 36) rfl rfl
theorem k_13_38 : (Jvm.Cond.instanceMethod ({ cls := "StaveHouseModel", name := "isTrack", desc := "()Z" } : Jvm.MethodName)) ∈ wAll := wA_13 (j := 38) rfl rfl
theorem ks_157 : (Jvm.Cond.selects "StaveHouseModel" ({ cls := "StaveHouseModel", name := "isTrack", desc := "()Z" } : Jvm.MethodName) ({ cls := "StaveHouseModel", name := "isTrack", desc := "()Z" } : Jvm.MethodName)) ∈ wAll := wA_s (j := 157) rfl rfl
theorem k_13_39 : (Jvm.Cond.code ({ cls := "StaveHouseModel", name := "isTrack", desc := "()Z" } : Jvm.MethodName) prog_15_method_142_code (3 : Nat) (Option.some Jvm.ClassFile.FieldType.boolean)) ∈ wAll := wA_13 (j := 39) rfl rfl
theorem k_13_40 : (Jvm.Cond.methodLink "StaveHouseModel" (1030 : Nat) ({ cls := "StaveHouseModel", name := "track0", desc := "(I)V" } : Jvm.MethodName)) ∈ wAll := wA_13 (j := 40) rfl rfl
theorem k_13_42 : (Jvm.Cond.instanceMethod ({ cls := "StaveHouseModel", name := "track0", desc := "(I)V" } : Jvm.MethodName)) ∈ wAll := wA_13 (j := 42) rfl rfl
theorem ks_158 : (Jvm.Cond.selects "StaveHouseModel" ({ cls := "StaveHouseModel", name := "track0", desc := "(I)V" } : Jvm.MethodName) ({ cls := "StaveHouseModel", name := "track0", desc := "(I)V" } : Jvm.MethodName)) ∈ wAll := wA_s (j := 158) rfl rfl
theorem k_13_43 : (Jvm.Cond.code ({ cls := "StaveHouseModel", name := "track0", desc := "(I)V" } : Jvm.MethodName) prog_15_method_145_code (11 : Nat) (Option.none : Option Jvm.ClassFile.FieldType)) ∈ wAll := wA_13 (j := 43) rfl rfl
theorem k_13_60 : (Jvm.Cond.methodLink "StaveHouseModel" (1033 : Nat) ({ cls := "StaveHouseModel", name := "keep", desc := "()V" } : Jvm.MethodName)) ∈ wAll := wA_13 (j := 60) rfl rfl
theorem k_13_62 : (Jvm.Cond.instanceMethod ({ cls := "StaveHouseModel", name := "keep", desc := "()V" } : Jvm.MethodName)) ∈ wAll := wA_13 (j := 62) rfl rfl
theorem ks_163 : (Jvm.Cond.selects "StaveHouseModel" ({ cls := "StaveHouseModel", name := "keep", desc := "()V" } : Jvm.MethodName) ({ cls := "StaveHouseModel", name := "keep", desc := "()V" } : Jvm.MethodName)) ∈ wAll := wA_s (j := 163) rfl rfl
theorem k_13_63 : (Jvm.Cond.code ({ cls := "StaveHouseModel", name := "keep", desc := "()V" } : Jvm.MethodName) prog_15_method_143_code (2 : Nat) (Option.none : Option Jvm.ClassFile.FieldType)) ∈ wAll := wA_13 (j := 63) rfl rfl
theorem k_13_163 : (Jvm.Cond.methodLink "StaveHouseModel" (685 : Nat) ({ cls := "StaveHouseModel", name := "formUp", desc := "(I)J" } : Jvm.MethodName)) ∈ wAll := wA_13 (j := 163) rfl rfl
theorem k_13_164 : (Jvm.Cond.static ({ cls := "StaveHouseModel", name := "formUp", desc := "(I)J" } : Jvm.MethodName)) ∈ wAll := wA_13 (j := 164) rfl rfl
theorem k_13_165 : (Jvm.Cond.code ({ cls := "StaveHouseModel", name := "formUp", desc := "(I)J" } : Jvm.MethodName) prog_15_method_82_code (1 : Nat) (Option.some Jvm.ClassFile.FieldType.long)) ∈ wAll := wA_13 (j := 165) rfl rfl
theorem k_13_168 : (Jvm.Cond.methodLink "StaveHouseModel" (689 : Nat) ({ cls := "StaveHouseModel", name := "formDown", desc := "(II)J" } : Jvm.MethodName)) ∈ wAll := wA_13 (j := 168) rfl rfl
theorem k_13_169 : (Jvm.Cond.static ({ cls := "StaveHouseModel", name := "formDown", desc := "(II)J" } : Jvm.MethodName)) ∈ wAll := wA_13 (j := 169) rfl rfl
theorem k_13_170 : (Jvm.Cond.code ({ cls := "StaveHouseModel", name := "formDown", desc := "(II)J" } : Jvm.MethodName) prog_15_method_83_code (2 : Nat) (Option.some Jvm.ClassFile.FieldType.long)) ∈ wAll := wA_13 (j := 170) rfl rfl
theorem k_11_50 : (Jvm.Cond.fieldLink "StaveHouseModel" (693 : Nat) "StaveHouseModel" "leftUp" "J") ∈ wAll := wA_11 (j := 50) rfl rfl
theorem k_11_51 : (Jvm.Cond.fieldLink "StaveHouseModel" (696 : Nat) "StaveHouseModel" "leftDown" "J") ∈ wAll := wA_11 (j := 51) rfl rfl
theorem k_13_171 : (Jvm.Cond.methodLink "StaveHouseModel" (699 : Nat) ({ cls := "StaveHouseModel", name := "stands", desc := "(LStaveHouseModel$Piece;JJ)Z" } : Jvm.MethodName)) ∈ wAll := wA_13 (j := 171) rfl rfl
theorem k_13_173 : (Jvm.Cond.instanceMethod ({ cls := "StaveHouseModel", name := "stands", desc := "(LStaveHouseModel$Piece;JJ)Z" } : Jvm.MethodName)) ∈ wAll := wA_13 (j := 173) rfl rfl
theorem ks_181 : (Jvm.Cond.selects "StaveHouseModel" ({ cls := "StaveHouseModel", name := "stands", desc := "(LStaveHouseModel$Piece;JJ)Z" } : Jvm.MethodName) ({ cls := "StaveHouseModel", name := "stands", desc := "(LStaveHouseModel$Piece;JJ)Z" } : Jvm.MethodName)) ∈ wAll := wA_s (j := 181) rfl rfl
theorem k_13_174 : (Jvm.Cond.code ({ cls := "StaveHouseModel", name := "stands", desc := "(LStaveHouseModel$Piece;JJ)Z" } : Jvm.MethodName) prog_15_method_85_code (12 : Nat) (Option.some Jvm.ClassFile.FieldType.boolean)) ∈ wAll := wA_13 (j := 174) rfl rfl
theorem k_11_54 : (Jvm.Cond.fieldLink "StaveHouseModel" (703 : Nat) "StaveHouseModel" "bestForm" "I") ∈ wAll := wA_11 (j := 54) rfl rfl
theorem k_11_55 : (Jvm.Cond.fieldLink "StaveHouseModel" (706 : Nat) "StaveHouseModel" "bestPoints" "I") ∈ wAll := wA_11 (j := 55) rfl rfl
theorem k_14_17 : (Jvm.Cond.methodLink "StaveHouseModel" (1228 : Nat) ({ cls := "StaveHouseModel", name := "chordAt", desc := "(LStaveHouseModel$Piece;I)V" } : Jvm.MethodName)) ∈ wAll := wA_14 (j := 17) rfl rfl
theorem k_14_19 : (Jvm.Cond.instanceMethod ({ cls := "StaveHouseModel", name := "chordAt", desc := "(LStaveHouseModel$Piece;I)V" } : Jvm.MethodName)) ∈ wAll := wA_14 (j := 19) rfl rfl
theorem ks_188 : (Jvm.Cond.selects "StaveHouseModel" ({ cls := "StaveHouseModel", name := "chordAt", desc := "(LStaveHouseModel$Piece;I)V" } : Jvm.MethodName) ({ cls := "StaveHouseModel", name := "chordAt", desc := "(LStaveHouseModel$Piece;I)V" } : Jvm.MethodName)) ∈ wAll := wA_s (j := 188) rfl rfl
theorem k_14_20 : (Jvm.Cond.code ({ cls := "StaveHouseModel", name := "chordAt", desc := "(LStaveHouseModel$Piece;I)V" } : Jvm.MethodName) prog_15_method_175_code (4 : Nat) (Option.none : Option Jvm.ClassFile.FieldType)) ∈ wAll := wA_14 (j := 20) rfl rfl
theorem k_14_46 : (Jvm.Cond.methodLink "StaveHouseModel" (1234 : Nat) ({ cls := "StaveHouseModel", name := "isForeign", desc := "(LStaveHouseModel$Piece;)Z" } : Jvm.MethodName)) ∈ wAll := wA_14 (j := 46) rfl rfl
theorem k_14_48 : (Jvm.Cond.instanceMethod ({ cls := "StaveHouseModel", name := "isForeign", desc := "(LStaveHouseModel$Piece;)Z" } : Jvm.MethodName)) ∈ wAll := wA_14 (j := 48) rfl rfl
theorem ks_193 : (Jvm.Cond.selects "StaveHouseModel" ({ cls := "StaveHouseModel", name := "isForeign", desc := "(LStaveHouseModel$Piece;)Z" } : Jvm.MethodName) ({ cls := "StaveHouseModel", name := "isForeign", desc := "(LStaveHouseModel$Piece;)Z" } : Jvm.MethodName)) ∈ wAll := wA_s (j := 193) rfl rfl
theorem k_14_49 : (Jvm.Cond.code ({ cls := "StaveHouseModel", name := "isForeign", desc := "(LStaveHouseModel$Piece;)Z" } : Jvm.MethodName) prog_15_method_180_code (4 : Nat) (Option.some Jvm.ClassFile.FieldType.boolean)) ∈ wAll := wA_14 (j := 49) rfl rfl
theorem k_14_43 : (Jvm.Cond.methodLink "StaveHouseModel" (1231 : Nat) ({ cls := "StaveHouseModel", name := "tonicLetter", desc := "(LStaveHouseModel$Piece;)I" } : Jvm.MethodName)) ∈ wAll := wA_14 (j := 43) rfl rfl
theorem k_14_44 : (Jvm.Cond.static ({ cls := "StaveHouseModel", name := "tonicLetter", desc := "(LStaveHouseModel$Piece;)I" } : Jvm.MethodName)) ∈ wAll := wA_14 (j := 44) rfl rfl
theorem k_14_45 : (Jvm.Cond.code ({ cls := "StaveHouseModel", name := "tonicLetter", desc := "(LStaveHouseModel$Piece;)I" } : Jvm.MethodName) prog_15_method_19_code (1 : Nat) (Option.some Jvm.ClassFile.FieldType.int)) ∈ wAll := wA_14 (j := 45) rfl rfl
theorem k_14_16 : (Jvm.Cond.constantLong "StaveHouseModel" (1226 : Nat) (-2147483648 : Int64)) ∈ wAll := wA_14 (j := 16) rfl rfl
theorem W_prog_15_method_85_code_0 : chW prog_15_method_85_code 0 [42, 42, 180, 2, 197, 42, 180, 2, 200, 32, 22, 4, 182, 2, 21, 42, 180, 0, 9, 55, 6, 42, 180, 0, 13, 55, 8, 42, 43, 42, 180, 2, 197, 42, 180, 2] := chW_of (by decide +kernel)
theorem W_prog_15_method_85_code_32 : chW prog_15_method_85_code 32 [197, 42, 180, 2, 200, 182, 2, 203, 54, 10, 42, 43, 22, 6, 22, 8, 182, 2, 203, 54, 11, 42, 43, 42, 180, 2, 197, 42, 180, 2, 200, 22, 6, 22, 8, 182] := chW_of (by decide +kernel)
theorem W_prog_15_method_85_code_64 : chW prog_15_method_85_code 64 [6, 22, 8, 182, 2, 207, 21, 10, 21, 11, 164, 0, 8, 21, 10, 167, 0, 5, 21, 11, 163, 0, 7, 4, 167, 0, 4, 3, 172] := chW_of (by decide +kernel)
theorem W_prog_15_method_168_code_0 : chW prog_15_method_168_code 0 [42, 27, 182, 3, 83, 78, 45, 198, 0, 21, 45, 180, 3, 147, 153, 0, 14, 28, 155, 0, 10, 28, 17, 3, 232, 164, 0, 5, 2, 172, 3, 54, 4, 21, 4, 28] := chW_of (by decide +kernel)
theorem W_prog_15_method_168_code_32 : chW prog_15_method_168_code 32 [4, 21, 4, 28, 162, 0, 67, 45, 89, 180, 3, 184, 42, 45, 45, 180, 3, 180, 182, 4, 139, 45, 180, 3, 184, 100, 5, 108, 96, 181, 3, 184, 45, 180, 4, 142] := chW_of (by decide +kernel)
theorem W_prog_15_method_168_code_96 : chW prog_15_method_168_code 96 [180, 132, 4, 1, 167, 255, 189, 45, 28, 181, 3, 181, 45, 180, 3, 180, 172] := chW_of (by decide +kernel)
theorem W_prog_15_method_168_code_64 : chW prog_15_method_168_code 64 [45, 180, 4, 142, 21, 4, 45, 180, 3, 184, 79, 45, 180, 4, 145, 21, 4, 42, 45, 182, 4, 148, 79, 45, 89, 180, 3, 180, 4, 96, 181, 3, 180, 132, 4, 1] := chW_of (by decide +kernel)
theorem d_15_168_97 : decode prog_15_method_168_code 97 = .ok (.iinc 4 1, 3) := D_132 W_prog_15_method_168_code_96 1 rfl rfl rfl
theorem W_prog_15_method_175_code_0 : chW prog_15_method_175_code 0 [42, 43, 28, 182, 4, 181, 42, 2, 181, 4, 184, 3, 62, 29, 42, 180, 4, 167, 162, 0, 30, 42, 180, 4, 184, 156, 0, 23, 42, 29, 181, 4, 187, 42, 42, 29] := chW_of (by decide +kernel)
theorem W_prog_15_method_175_code_32 : chW prog_15_method_175_code 32 [187, 42, 42, 29, 182, 4, 190, 181, 4, 184, 132, 3, 1, 167, 255, 224, 177] := chW_of (by decide +kernel)
theorem d_15_175_42 : decode prog_15_method_175_code 42 = .ok (.iinc 3 1, 3) := D_132 W_prog_15_method_175_code_32 10 rfl rfl rfl
theorem W_prog_15_method_25_code_0 : chW prog_15_method_25_code 0 [42, 3, 181, 1, 77, 3, 60, 27, 42, 180, 1, 40, 162, 0, 125, 42, 27, 182, 1, 80, 61, 28, 16, 9, 159, 0, 21, 28, 16, 10, 159, 0, 15, 28, 16, 13] := chW_of (by decide +kernel)
theorem W_prog_15_method_25_code_128 : chW prog_15_method_25_code 128 [77, 4, 96, 181, 1, 77, 167, 255, 129, 42, 180, 0, 48, 42, 180, 1, 77, 3, 79, 42, 180, 0, 52, 42, 180, 1, 77, 42, 180, 1, 40, 79, 177] := chW_of (by decide +kernel)
theorem W_prog_15_method_25_code_160 : chW prog_15_method_25_code 160 [177] := chW_of (by decide +kernel)
theorem W_prog_15_method_25_code_32 : chW prog_15_method_25_code 32 [15, 28, 16, 13, 159, 0, 9, 28, 16, 32, 160, 0, 9, 132, 1, 1, 167, 255, 215, 42, 180, 0, 52, 42, 180, 1, 77, 27, 79, 42, 180, 0, 61, 42, 180, 1] := chW_of (by decide +kernel)
theorem W_prog_15_method_25_code_64 : chW prog_15_method_25_code 64 [61, 42, 180, 1, 77, 9, 80, 28, 184, 1, 84, 153, 0, 12, 42, 27, 182, 1, 87, 60, 167, 0, 40, 42, 180, 0, 48, 42, 180, 1, 77, 19, 1, 90, 28, 184] := chW_of (by decide +kernel)
theorem W_prog_15_method_25_code_96 : chW prog_15_method_25_code 96 [1, 90, 28, 184, 1, 92, 153, 0, 7, 8, 167, 0, 4, 4, 79, 42, 180, 0, 55, 42, 180, 1, 77, 28, 79, 132, 1, 1, 42, 89, 180, 1, 77, 4, 96, 181] := chW_of (by decide +kernel)
theorem d_15_25_45 : decode prog_15_method_25_code 45 = .ok (.iinc 1 1, 3) := D_132 W_prog_15_method_25_code_32 13 rfl rfl rfl
theorem d_15_25_121 : decode prog_15_method_25_code 121 = .ok (.iinc 1 1, 3) := D_132 W_prog_15_method_25_code_96 25 rfl rfl rfl
theorem W_prog_15_method_42_code_0 : chW prog_15_method_42_code 0 [42, 180, 1, 139, 153, 0, 7, 42, 182, 1, 127, 42, 4, 181, 1, 139, 42, 89, 180, 1, 106, 4, 96, 181, 1, 106, 42, 182, 1, 120, 154, 0, 4, 177, 42, 16] := chW_of (by decide +kernel)
theorem W_prog_15_method_42_code_32 : chW prog_15_method_42_code 32 [4, 177, 42, 16, 45, 182, 1, 124, 60, 27, 153, 0, 13, 42, 89, 180, 1, 106, 4, 96, 181, 1, 106, 42, 3, 16, 7, 3, 182, 1, 170, 61, 42, 180, 0, 44] := chW_of (by decide +kernel)
theorem W_prog_15_method_42_code_64 : chW prog_15_method_42_code 64 [42, 180, 0, 44, 27, 153, 0, 8, 28, 116, 167, 0, 4, 28, 181, 1, 54, 42, 182, 1, 120, 154, 0, 4, 177, 42, 180, 0, 44, 42, 178, 0, 105, 182, 1, 157] := chW_of (by decide +kernel)
theorem W_prog_15_method_42_code_96 : chW prog_15_method_42_code 96 [105, 182, 1, 157, 181, 1, 57, 42, 178, 0, 102, 182, 1, 157, 154, 0, 13, 42, 178, 0, 105, 182, 1, 157, 153, 0, 16, 42, 89, 180, 1, 106, 4, 96, 181, 1] := chW_of (by decide +kernel)
theorem W_prog_15_method_42_code_128 : chW prog_15_method_42_code 128 [4, 96, 181, 1, 106, 167, 0, 7, 42, 182, 1, 127, 177] := chW_of (by decide +kernel)
theorem W_prog_15_method_91_code_0 : chW prog_15_method_91_code 0 [3, 61, 28, 43, 180, 1, 48, 162, 0, 64, 42, 43, 28, 182, 2, 252, 42, 43, 28, 182, 2, 255, 3, 62, 29, 43, 180, 2, 211, 28, 46, 162, 0, 28, 43, 180] := chW_of (by decide +kernel)
theorem W_prog_15_method_91_code_64 : chW prog_15_method_91_code 64 [7, 132, 2, 1, 167, 255, 190, 177] := chW_of (by decide +kernel)
theorem W_prog_15_method_91_code_32 : chW prog_15_method_91_code 32 [0, 28, 43, 180, 3, 2, 17, 3, 32, 28, 104, 29, 96, 42, 43, 28, 29, 182, 3, 5, 79, 132, 3, 1, 167, 255, 224, 42, 43, 28, 182, 3, 7, 132, 2, 1] := chW_of (by decide +kernel)
theorem d_15_91_65 : decode prog_15_method_91_code 65 = .ok (.iinc 2 1, 3) := D_132 W_prog_15_method_91_code_64 1 rfl rfl rfl
theorem d_15_91_53 : decode prog_15_method_91_code 53 = .ok (.iinc 3 1, 3) := D_132 W_prog_15_method_91_code_32 21 rfl rfl rfl
theorem W_prog_15_method_186_code_0 : chW prog_15_method_186_code 0 [43, 3, 181, 4, 216, 4, 61, 28, 43, 180, 4, 151, 162, 0, 133, 4, 62, 29, 16, 7, 162, 0, 119, 3, 54, 4, 21, 4, 43, 180, 1, 48, 162, 0, 101, 29] := chW_of (by decide +kernel)
theorem W_prog_15_method_186_code_128 : chW prog_15_method_186_code 128 [4, 1, 167, 255, 152, 132, 3, 1, 167, 255, 137, 132, 2, 1, 167, 255, 121, 177] := chW_of (by decide +kernel)
theorem d_15_186_139 : decode prog_15_method_186_code 139 = .ok (.iinc 2 1, 3) := D_132 W_prog_15_method_186_code_128 11 rfl rfl rfl
theorem W_prog_15_method_186_code_32 : chW prog_15_method_186_code 32 [162, 0, 101, 29, 7, 164, 0, 26, 43, 28, 29, 21, 4, 184, 4, 219, 153, 0, 79, 43, 28, 29, 21, 4, 2, 184, 4, 222, 167, 0, 67, 21, 4, 4, 96, 54] := chW_of (by decide +kernel)
theorem d_15_186_133 : decode prog_15_method_186_code 133 = .ok (.iinc 3 1, 3) := D_132 W_prog_15_method_186_code_128 5 rfl rfl rfl
theorem W_prog_15_method_186_code_64 : chW prog_15_method_186_code 64 [4, 4, 96, 54, 5, 21, 5, 43, 180, 1, 48, 162, 0, 52, 29, 7, 160, 0, 18, 43, 28, 21, 4, 21, 5, 184, 4, 224, 153, 0, 29, 167, 0, 16, 43, 28] := chW_of (by decide +kernel)
theorem W_prog_15_method_186_code_96 : chW prog_15_method_186_code 96 [0, 16, 43, 28, 29, 21, 4, 21, 5, 184, 4, 227, 153, 0, 13, 43, 28, 29, 21, 4, 21, 5, 184, 4, 222, 132, 5, 1, 167, 255, 201, 132, 4, 1, 167, 255] := chW_of (by decide +kernel)
theorem d_15_186_127 : decode prog_15_method_186_code 127 = .ok (.iinc 4 1, 3) := D_132 W_prog_15_method_186_code_96 31 rfl rfl rfl
theorem d_15_186_121 : decode prog_15_method_186_code 121 = .ok (.iinc 5 1, 3) := D_132 W_prog_15_method_186_code_96 25 rfl rfl rfl
theorem W_prog_15_method_116_code_0 : chW prog_15_method_116_code 0 [42, 3, 181, 3, 121, 3, 61, 28, 43, 180, 1, 48, 162, 0, 183, 3, 62, 29, 43, 180, 2, 3, 28, 46, 162, 0, 165, 17, 3, 232, 28, 104, 29, 96, 54, 4] := chW_of (by decide +kernel)
theorem W_prog_15_method_116_code_192 : chW prog_15_method_116_code 192 [167, 255, 71, 42, 180, 3, 121, 172] := chW_of (by decide +kernel)
theorem W_prog_15_method_116_code_160 : chW prog_15_method_116_code 160 [182, 3, 127, 167, 0, 14, 42, 43, 28, 29, 21, 6, 21, 7, 182, 3, 131, 132, 5, 1, 167, 255, 115, 132, 3, 1, 167, 255, 87, 132, 2, 1, 167, 255, 71, 42] := chW_of (by decide +kernel)
theorem d_15_116_189 : decode prog_15_method_116_code 189 = .ok (.iinc 2 1, 3) := D_132 W_prog_15_method_116_code_160 29 rfl rfl rfl
theorem W_prog_15_method_116_code_32 : chW prog_15_method_116_code 32 [29, 96, 54, 4, 3, 54, 5, 21, 5, 43, 180, 2, 86, 21, 4, 46, 162, 0, 135, 43, 180, 2, 103, 16, 6, 21, 4, 104, 21, 5, 96, 46, 54, 6, 43, 180] := chW_of (by decide +kernel)
theorem d_15_116_183 : decode prog_15_method_116_code 183 = .ok (.iinc 3 1, 3) := D_132 W_prog_15_method_116_code_160 23 rfl rfl rfl
theorem W_prog_15_method_116_code_64 : chW prog_15_method_116_code 64 [54, 6, 43, 180, 2, 106, 16, 6, 21, 4, 104, 21, 5, 96, 46, 54, 7, 29, 158, 0, 21, 43, 21, 4, 4, 100, 21, 6, 21, 7, 184, 3, 124, 153, 0, 6] := chW_of (by decide +kernel)
theorem W_prog_15_method_116_code_96 : chW prog_15_method_116_code 96 [124, 153, 0, 6, 167, 0, 77, 43, 180, 2, 72, 21, 4, 46, 16, 64, 126, 158, 0, 31, 43, 180, 2, 86, 21, 4, 46, 4, 160, 0, 20, 43, 21, 4, 21, 6] := chW_of (by decide +kernel)
theorem d_15_116_177 : decode prog_15_method_116_code 177 = .ok (.iinc 5 1, 3) := D_132 W_prog_15_method_116_code_160 17 rfl rfl rfl
theorem W_prog_15_method_116_code_128 : chW prog_15_method_116_code 128 [21, 4, 21, 6, 21, 7, 184, 3, 124, 154, 0, 7, 4, 167, 0, 4, 3, 54, 8, 21, 8, 153, 0, 17, 42, 43, 28, 29, 21, 6, 21, 7, 182, 3, 127, 167] := chW_of (by decide +kernel)
theorem W_prog_15_method_140_code_0 : chW prog_15_method_140_code 0 [42, 3, 181, 1, 100, 42, 3, 181, 3, 227, 42, 20, 3, 241, 181, 3, 229, 42, 3, 181, 3, 243, 42, 3, 181, 3, 246, 42, 3, 181, 3, 249, 42, 3, 181, 3] := chW_of (by decide +kernel)
theorem W_prog_15_method_140_code_32 : chW prog_15_method_140_code 32 [42, 3, 181, 3, 252, 42, 180, 0, 233, 5, 3, 79, 42, 180, 0, 233, 6, 3, 79, 42, 180, 0, 233, 7, 7, 79, 42, 180, 0, 233, 8, 7, 79, 42, 180, 0] := chW_of (by decide +kernel)
theorem W_prog_15_method_140_code_64 : chW prog_15_method_140_code 64 [79, 42, 180, 0, 233, 16, 6, 16, 120, 79, 42, 182, 3, 255, 64, 3, 62, 42, 182, 1, 120, 153, 0, 113, 29, 42, 180, 0, 233, 3, 46, 162, 0, 103, 42, 31] := chW_of (by decide +kernel)
theorem W_prog_15_method_140_code_96 : chW prog_15_method_140_code 96 [0, 103, 42, 31, 42, 180, 1, 40, 133, 148, 156, 0, 7, 31, 167, 0, 8, 42, 180, 1, 40, 133, 136, 181, 3, 227, 42, 20, 3, 241, 181, 3, 229, 42, 182, 4] := chW_of (by decide +kernel)
theorem W_prog_15_method_140_code_128 : chW prog_15_method_140_code 128 [229, 42, 182, 4, 3, 54, 4, 42, 7, 182, 3, 238, 55, 5, 42, 180, 3, 227, 133, 22, 5, 97, 64, 42, 182, 1, 120, 153, 0, 21, 21, 4, 153, 0, 16, 42] := chW_of (by decide +kernel)
theorem W_prog_15_method_140_code_160 : chW prog_15_method_140_code 160 [153, 0, 16, 42, 31, 181, 3, 229, 42, 29, 182, 4, 6, 132, 3, 1, 31, 42, 180, 1, 40, 133, 148, 158, 0, 12, 42, 5, 42, 180, 1, 40, 182, 3, 232, 167] := chW_of (by decide +kernel)
theorem d_15_140_173 : decode prog_15_method_140_code 173 = .ok (.iinc 3 1, 3) := D_132 W_prog_15_method_140_code_160 13 rfl rfl rfl
theorem W_prog_15_method_140_code_192 : chW prog_15_method_140_code 192 [182, 3, 232, 167, 255, 142, 42, 3, 181, 1, 40, 42, 182, 1, 120, 154, 0, 16, 42, 180, 1, 100, 16, 16, 42, 180, 1, 103, 104, 96, 172, 42, 180, 0, 233, 16] := chW_of (by decide +kernel)
theorem W_prog_15_method_140_code_224 : chW prog_15_method_140_code 224 [180, 0, 233, 16, 7, 42, 180, 3, 243, 79, 42, 182, 4, 9, 3, 172] := chW_of (by decide +kernel)
theorem W_prog_15_method_84_code_0 : chW prog_15_method_84_code 0 [9, 66, 10, 55, 5, 3, 54, 7, 21, 7, 16, 8, 162, 0, 112, 3, 54, 8, 21, 8, 6, 162, 0, 97, 21, 8, 184, 2, 173, 55, 9, 21, 7, 21, 8, 184] := chW_of (by decide +kernel)
theorem W_prog_15_method_84_code_96 : chW prog_15_method_84_code 96 [22, 11, 55, 5, 42, 21, 7, 181, 2, 191, 42, 21, 8, 181, 2, 194, 132, 8, 1, 167, 255, 159, 132, 7, 1, 167, 255, 143, 33, 9, 148, 158, 0, 7, 4, 167] := chW_of (by decide +kernel)
theorem W_prog_15_method_84_code_128 : chW prog_15_method_84_code 128 [0, 7, 4, 167, 0, 4, 3, 172] := chW_of (by decide +kernel)
theorem d_15_84_118 : decode prog_15_method_84_code 118 = .ok (.iinc 7 1, 3) := D_132 W_prog_15_method_84_code_96 22 rfl rfl rfl
theorem W_prog_15_method_84_code_32 : chW prog_15_method_84_code 32 [7, 21, 8, 184, 2, 177, 55, 11, 22, 9, 22, 11, 42, 180, 2, 181, 42, 180, 2, 184, 184, 2, 25, 157, 0, 57, 22, 9, 22, 11, 33, 22, 5, 184, 2, 25] := chW_of (by decide +kernel)
theorem W_prog_15_method_84_code_64 : chW prog_15_method_84_code 64 [5, 184, 2, 25, 157, 0, 6, 167, 0, 41, 28, 153, 0, 18, 42, 43, 22, 9, 22, 11, 182, 2, 187, 154, 0, 6, 167, 0, 22, 22, 9, 66, 22, 11, 55, 5] := chW_of (by decide +kernel)
theorem d_15_84_112 : decode prog_15_method_84_code 112 = .ok (.iinc 8 1, 3) := D_132 W_prog_15_method_84_code_96 16 rfl rfl rfl
theorem W_prog_15_method_181_code_0 : chW prog_15_method_181_code 0 [42, 27, 182, 3, 83, 58, 4, 25, 4, 198, 0, 26, 28, 155, 0, 22, 28, 25, 4, 180, 4, 151, 162, 0, 13, 29, 155, 0, 9, 29, 16, 8, 164, 0, 7, 20] := chW_of (by decide +kernel)
theorem W_prog_15_method_181_code_32 : chW prog_15_method_181_code 32 [164, 0, 7, 20, 4, 202, 173, 29, 154, 0, 11, 25, 4, 180, 4, 158, 28, 47, 173, 29, 4, 160, 0, 11, 25, 4, 180, 4, 161, 28, 47, 173, 42, 25, 4, 28] := chW_of (by decide +kernel)
theorem W_prog_15_method_181_code_64 : chW prog_15_method_181_code 64 [42, 25, 4, 28, 182, 4, 204, 29, 5, 160, 0, 9, 42, 180, 4, 167, 133, 173, 29, 6, 160, 0, 9, 42, 180, 4, 184, 133, 173, 42, 180, 4, 184, 156, 0, 5] := chW_of (by decide +kernel)
theorem W_prog_15_method_181_code_96 : chW prog_15_method_181_code 96 [184, 156, 0, 5, 9, 173, 29, 7, 160, 0, 14, 42, 180, 1, 31, 42, 180, 4, 187, 46, 133, 173, 29, 8, 160, 0, 14, 42, 180, 1, 34, 42, 180, 4, 187, 46] := chW_of (by decide +kernel)
theorem W_prog_15_method_181_code_128 : chW prog_15_method_181_code 128 [180, 4, 187, 46, 133, 173, 29, 16, 6, 160, 0, 29, 42, 180, 4, 175, 16, 7, 112, 42, 180, 1, 31, 42, 180, 4, 187, 46, 100, 16, 7, 184, 1, 51, 5, 108] := chW_of (by decide +kernel)
theorem W_prog_15_method_181_code_160 : chW prog_15_method_181_code 160 [1, 51, 5, 108, 133, 173, 29, 16, 7, 160, 0, 25, 42, 180, 1, 31, 42, 180, 4, 187, 46, 25, 4, 184, 4, 207, 100, 16, 7, 184, 1, 51, 133, 173, 42, 25] := chW_of (by decide +kernel)
theorem W_prog_15_method_181_code_192 : chW prog_15_method_181_code 192 [133, 173, 42, 25, 4, 182, 4, 210, 153, 0, 7, 10, 167, 0, 4, 9, 173] := chW_of (by decide +kernel)
abbrev Q_M_stands (D : va_G) (ca : Nat → ClassId) (ad : Nat → Int → Nat → Nat) (L : List Nat) (r : Int) (F : zF) (B : zB) (A : Nat → Prop) : Array Value → State → Outcome → State → Prop := va_Qi (S := Unit) (fun p _ => p = iI r) (fun _ => zPo D ca ad lnM nM L F B A) A
def f_M_stands_92 (K : Nat) (s0 : Int) (F : zF) (B : zB) : zO := if (s0 = 0 ∨ s0 = 1) then some (s0, F, B) else none
set_option maxHeartbeats 4000000 in
set_option maxRecDepth 100000 in
theorem b_M_stands_92 {D : va_G} {ca : Nat → ClassId} {ad : Nat → Int → Nat → Nat} {L : List Nat} {aS vS : Nat → Nat} {A : Nat → Prop} {p : Program} {l : Launch} {e : Env} {s : State} {m : MethodId} {args : Array Value} {below : List Frame} {meth : Method} {c : Code} {K : Nat} {r : Int} {F9 : zF} {B9 : zB} (X : zX D ca L aS vS A p s m args meth c prog_15_method_85_code 12 (Option.some Jvm.ClassFile.FieldType.boolean) "StaveHouseModel") {s0 : Int} {F : zF} {B : zB} {H : Heap} {locs : List Loc} {ls : Array Slot} (hf : f_M_stands_92 K s0 F B = some (r, F9, B9)) (hZ : zH D ca ad lnM nM L F B A H) (hS : va_S A s.heap H locs) (hl : lv_has ls 12 []) : W p l e ({ frames := 4, cells := 0, slots := 0, locals := 127 } : Room) s m args below meth c H locs 0 0 (MQ below (Q_M_stands D ca ad L r F9 B9 A) args s 0 0 A) (F0 m 92 ls [.int (iI s0)]) := by
  obtain ⟨hx, hb, hr, hml, hown, hts, hlk, hK, hA, hL, hX⟩ := id X
  replace hf : (if (s0 = 0 ∨ s0 = 1) then some (s0, F, B) else none) = some (r, F9, B9) := hf
  obtain ⟨g11, hf⟩ := gif hf
  cases hf
  exact W.zret hx hb hr (zbool g11) (fun t ht hW => ⟨⟨_, (), rfl, rfl, by rw [ht]; exact hZ, va_K.moved hW.alike hK⟩, hS.F ht⟩) hS.2.2 (D_172 W_prog_15_method_85_code_64 28 rfl rfl) hlk

def f_M_stands_84 (K : Nat) (s0 : Int) (s1 : Int) (F : zF) (B : zB) : zO := if r32 s0 then if r32 s1 then (if s1 < s0 then f_M_stands_92 K 0 F B else f_M_stands_92 K 1 F B) else none else none
set_option maxHeartbeats 4000000 in
set_option maxRecDepth 100000 in
theorem b_M_stands_84 {D : va_G} {ca : Nat → ClassId} {ad : Nat → Int → Nat → Nat} {L : List Nat} {aS vS : Nat → Nat} {A : Nat → Prop} {p : Program} {l : Launch} {e : Env} {s : State} {m : MethodId} {args : Array Value} {below : List Frame} {meth : Method} {c : Code} {K : Nat} {r : Int} {F9 : zF} {B9 : zB} (X : zX D ca L aS vS A p s m args meth c prog_15_method_85_code 12 (Option.some Jvm.ClassFile.FieldType.boolean) "StaveHouseModel") {s0 : Int} {s1 : Int} {F : zF} {B : zB} {H : Heap} {locs : List Loc} {ls : Array Slot} (hf : f_M_stands_84 K s0 s1 F B = some (r, F9, B9)) (hZ : zH D ca ad lnM nM L F B A H) (hS : va_S A s.heap H locs) (hl : lv_has ls 12 []) : W p l e ({ frames := 4, cells := 0, slots := 0, locals := 127 } : Room) s m args below meth c H locs 0 0 (MQ below (Q_M_stands D ca ad L r F9 B9 A) args s 0 0 A) (F0 m 84 ls [.int (iI s1), .int (iI s0)]) := by
  obtain ⟨hx, hb, hr, hml, hown, hts, hlk, hK, hA, hL, hX⟩ := id X
  replace hf : (if r32 s0 then if r32 s1 then (if s1 < s0 then f_M_stands_92 K 0 F B else f_M_stands_92 K 1 F B) else none else none) = some (r, F9, B9) := hf
  obtain ⟨g8, hf⟩ := gif hf
  obtain ⟨g9, hf⟩ := gif hf
  refine zgt (tgt := 91) hx hb g8 g9 (D_163 W_prog_15_method_85_code_64 20 rfl rfl rfl) (by decide) (fun h10 => ?_) (fun h10 => ?_)
  · replace hf := gpos hf h10
    refine lv_iconst (v := iI 0) hx hb (D_3 W_prog_15_method_85_code_64 27 rfl rfl) rfl ?_
    exact b_M_stands_92 X hf hZ hS (lv_sub hl [] rfl)
  · replace hf := gneg hf h10
    refine lv_iconst (v := iI 1) hx hb (D_4 W_prog_15_method_85_code_64 23 rfl rfl) rfl ?_
    refine lv_goto (tgt := 92) hx hb (D_167 W_prog_15_method_85_code_64 24 rfl rfl rfl) (by decide) ?_
    exact b_M_stands_92 X hf hZ hS (lv_sub hl [] rfl)

def f_M_stands (K : Nat) (l1 : Int) (l2 : Int) (l4 : Int) (F : zF) (B : zB) : zO := zbind (f_M_plus K (F 14 0 54) (F 14 0 55) l2 l4 F B) (fun r1 F1 B1 => zbind (f_M_strength K l1 (F1 14 0 54) (F1 14 0 55) F1 B1) (fun r2 F2 B2 => zbind (f_M_strength K l1 (F1 14 0 0) (F1 14 0 1) F2 B2) (fun r3 F3 B3 => zbind (f_M_between_1 K l1 (F3 14 0 54) (F3 14 0 55) (F1 14 0 0) (F1 14 0 1) F3 B3) (fun r4 F4 B4 => if r32 r2 then if r32 r3 then (if r2 ≤ r3 then f_M_stands_84 K r4 r3 F4 B4 else f_M_stands_84 K r4 r2 F4 B4) else none else none))))
set_option maxHeartbeats 4000000 in
set_option maxRecDepth 100000 in
theorem c_M_stands {l : Launch} {D : va_G} {ca : Nat → ClassId} {ad : Nat → Int → Nat → Nat} {L : List Nat} {aS vS : Nat → Nat} {sz K : Nat}  {l1 : Int} {l2 : Int} {l4 : Int} {F F9 : zF} {B B9 : zB} {r : Int} (hf : f_M_stands K l1 l2 l4 F B = some (r, F9, B9)) : Met l ({ cls := "StaveHouseModel", name := "stands", desc := "(LStaveHouseModel$Piece;JJ)Z" } : Jvm.MethodName) (Cond.code ({ cls := "StaveHouseModel", name := "stands", desc := "(LStaveHouseModel$Piece;JJ)Z" } : Jvm.MethodName) prog_15_method_85_code 12 (Option.some Jvm.ClassFile.FieldType.boolean) :: wAll) ({ frames := 4, cells := 0, slots := 0, locals := 127 } : Room) (va_Pc [.ref (ad 14 0 0), .ref (ad 13 l1 0), .long (lI l2), .long (lI l4)] (zPre D ca ad lnM nM L aS vS F B sz)) (Q_M_stands D ca ad L r F9 B9 (zA L sz)) 0 0 (zA L sz) := by
  refine zMet (Qc := Q_M_stands D ca ad L r F9 B9) (lv := [(0, .ref (ad 14 0 0)), (1, .ref (ad 13 l1 0)), (2, .long (lI l2)), (4, .long (lI l4))]) (by decide) (Nat.le_of_ble_eq_true rfl) rfl (fun A p e s m below meth c ls X hZ hS hl => ?_)
  obtain ⟨hx, hb, hr, hml, hown, hts, hlk, hK, hA, hL, hX⟩ := id X
  replace hf : (zbind (f_M_plus K (F 14 0 54) (F 14 0 55) l2 l4 F B) (fun r1 F1 B1 => zbind (f_M_strength K l1 (F1 14 0 54) (F1 14 0 55) F1 B1) (fun r2 F2 B2 => zbind (f_M_strength K l1 (F1 14 0 0) (F1 14 0 1) F2 B2) (fun r3 F3 B3 => zbind (f_M_between_1 K l1 (F3 14 0 54) (F3 14 0 55) (F1 14 0 0) (F1 14 0 1) F3 B3) (fun r4 F4 B4 => if r32 r2 then if r32 r3 then (if r2 ≤ r3 then f_M_stands_84 K r4 r3 F4 B4 else f_M_stands_84 K r4 r2 F4 B4) else none else none))))) = some (r, F9, B9) := hf
  refine lv_aload_n hx hb (D_42 W_prog_15_method_85_code_0 0 rfl rfl) rfl (lv_at hl 0 rfl) ?_
  refine lv_aload_n hx hb (D_42 W_prog_15_method_85_code_0 1 rfl rfl) rfl (lv_at hl 0 rfl) ?_
  refine zget (ci := 14) (C := RX14) (T := TX14) (v := .long (lI (F 14 0 54))) (k := 54) hx hb hts inW_14 hown hK hZ (by decide) (by decide) rfl (by decide) k_11_52 rfl (D_180 W_prog_15_method_85_code_0 2 rfl rfl rfl) ?_
  refine lv_aload_n hx hb (D_42 W_prog_15_method_85_code_0 5 rfl rfl) rfl (lv_at hl 0 rfl) ?_
  refine zget (ci := 14) (C := RX14) (T := TX14) (v := .long (lI (F 14 0 55))) (k := 55) hx hb hts inW_14 hown hK hZ (by decide) (by decide) rfl (by decide) k_11_53 rfl (D_180 W_prog_15_method_85_code_0 6 rfl rfl rfl) ?_
  refine lv_lload_n hx hb (D_32 W_prog_15_method_85_code_0 9 rfl rfl) rfl (lv_at hl 2 rfl) ?_
  refine lv_lload hx hb (D_22 W_prog_15_method_85_code_0 10 rfl rfl) (lv_at hl 3 rfl) ?_
  obtain ⟨r1, F1, B1, hc1, hf⟩ := gbind hf
  refine va_callv (va_runV (As := [.long (lI (F 14 0 54)), .long (lI (F 14 0 55)), .long (lI l2), .long (lI l4)]) (rest := []) ⟨hx, hb, hml, hown, hts⟩ (c_M_plus (l := l) hc1) (cwV 4 hts (gdV k_12_147 k_12_149 ks_135 k_1_9 k_12_150) rfl rfl rfl (by decide +kernel) ⟨Nat.le_of_ble_eq_true rfl, Nat.le_of_ble_eq_true rfl⟩) (zPV X hZ hS (ci := 14) (by decide) (by decide) (r := (RX14, TX14, 107)) rfl [.long (lI (F 14 0 54)), .long (lI (F 14 0 55)), .long (lI l2), .long (lI l4)]) rfl rfl hl.1 rfl (lv_room (Nat.le_of_ble_eq_true rfl)) (D_182 W_prog_15_method_85_code_0 12 rfl rfl rfl) ⟨Nat.le_of_ble_eq_true rfl, Nat.le_of_ble_eq_true rfl⟩) hS (fun q _ h => zAin X hS q h) (zAin X hS) (fun u1 t1 H1 locs1 ht1 hv1 hw1 hB1 hz1 hk1 hS1 => ?_)
  have hZ1 := zBack X ht1 hB1
  refine lv_aload_n hx hb (D_42 W_prog_15_method_85_code_0 15 rfl rfl) rfl (lv_at hl 0 rfl) ?_
  refine zget (ci := 14) (C := RX14) (T := TX14) (v := .long (lI (F1 14 0 0))) (k := 0) hx hb hts inW_14 hown hK hZ1 (by decide) (by decide) rfl (by decide) k_10_238 rfl (D_180 W_prog_15_method_85_code_0 16 rfl rfl rfl) ?_
  refine lv_lstore (lv' := [(6, .long (lI (F1 14 0 0))), (0, .ref (ad 14 0 0)), (1, .ref (ad 13 l1 0)), (2, .long (lI l2)), (4, .long (lI l4))]) hx hb (D_55 W_prog_15_method_85_code_0 19 rfl rfl) hl (by decide) rfl (fun ls hl => ?_)
  refine lv_aload_n hx hb (D_42 W_prog_15_method_85_code_0 21 rfl rfl) rfl (lv_at hl 1 rfl) ?_
  refine zget (ci := 14) (C := RX14) (T := TX14) (v := .long (lI (F1 14 0 1))) (k := 1) hx hb hts inW_14 hown hK hZ1 (by decide) (by decide) rfl (by decide) k_10_239 rfl (D_180 W_prog_15_method_85_code_0 22 rfl rfl rfl) ?_
  refine lv_lstore (lv' := [(8, .long (lI (F1 14 0 1))), (6, .long (lI (F1 14 0 0))), (0, .ref (ad 14 0 0)), (1, .ref (ad 13 l1 0)), (2, .long (lI l2)), (4, .long (lI l4))]) hx hb (D_55 W_prog_15_method_85_code_0 25 rfl rfl) hl (by decide) rfl (fun ls hl => ?_)
  refine lv_aload_n hx hb (D_42 W_prog_15_method_85_code_0 27 rfl rfl) rfl (lv_at hl 2 rfl) ?_
  refine lv_aload_n hx hb (D_43 W_prog_15_method_85_code_0 28 rfl rfl) rfl (lv_at hl 3 rfl) ?_
  refine lv_aload_n hx hb (D_42 W_prog_15_method_85_code_0 29 rfl rfl) rfl (lv_at hl 2 rfl) ?_
  refine zget (ci := 14) (C := RX14) (T := TX14) (v := .long (lI (F1 14 0 54))) (k := 54) hx hb hts inW_14 hown hK hZ1 (by decide) (by decide) rfl (by decide) k_11_52 rfl (D_180 W_prog_15_method_85_code_0 30 rfl rfl rfl) ?_
  refine lv_aload_n hx hb (D_42 W_prog_15_method_85_code_32 1 rfl rfl) rfl (lv_at hl 2 rfl) ?_
  refine zget (ci := 14) (C := RX14) (T := TX14) (v := .long (lI (F1 14 0 55))) (k := 55) hx hb hts inW_14 hown hK hZ1 (by decide) (by decide) rfl (by decide) k_11_53 rfl (D_180 W_prog_15_method_85_code_32 2 rfl rfl rfl) ?_
  obtain ⟨r2, F2, B2, hc2, hf⟩ := gbind hf
  refine va_calli (va_runV (As := [.ref (ad 13 l1 0), .long (lI (F1 14 0 54)), .long (lI (F1 14 0 55))]) (rest := []) ⟨hx, hb, hml, hown, hts⟩ (c_M_strength (l := l) hc2) (cwV 3 hts (gdV k_13_175 k_13_177 ks_182 k_1_9 k_13_178) rfl rfl rfl (by decide +kernel) ⟨Nat.le_of_ble_eq_true rfl, Nat.le_of_ble_eq_true rfl⟩) (zPV X hZ1 hS1 (ci := 14) (by decide) (by decide) (r := (RX14, TX14, 107)) rfl [.ref (ad 13 l1 0), .long (lI (F1 14 0 54)), .long (lI (F1 14 0 55))]) rfl rfl hl.1 rfl (lv_room (Nat.le_of_ble_eq_true rfl)) (D_182 W_prog_15_method_85_code_32 5 rfl rfl rfl) ⟨Nat.le_of_ble_eq_true rfl, Nat.le_of_ble_eq_true rfl⟩) hS1 (fun q _ h => zAin X hS1 q h) (zAin X hS1) (fun p2 u2 t2 H2 locs2 ht2 hv2 hw2 hB2 hz2 hk2 hS2 => ?_)
  have hZ2 := zBack X ht2 hB2
  subst hw2
  refine lv_istore (lv' := [(10, .int (iI r2)), (8, .long (lI (F1 14 0 1))), (6, .long (lI (F1 14 0 0))), (0, .ref (ad 14 0 0)), (1, .ref (ad 13 l1 0)), (2, .long (lI l2)), (4, .long (lI l4))]) hx hb (D_54 W_prog_15_method_85_code_32 8 rfl rfl) hl (by decide) rfl (fun ls hl => ?_)
  refine lv_aload_n hx hb (D_42 W_prog_15_method_85_code_32 10 rfl rfl) rfl (lv_at hl 3 rfl) ?_
  refine lv_aload_n hx hb (D_43 W_prog_15_method_85_code_32 11 rfl rfl) rfl (lv_at hl 4 rfl) ?_
  refine lv_lload hx hb (D_22 W_prog_15_method_85_code_32 12 rfl rfl) (lv_at hl 2 rfl) ?_
  refine lv_lload hx hb (D_22 W_prog_15_method_85_code_32 14 rfl rfl) (lv_at hl 1 rfl) ?_
  obtain ⟨r3, F3, B3, hc3, hf⟩ := gbind hf
  refine va_calli (va_runV (As := [.ref (ad 13 l1 0), .long (lI (F1 14 0 0)), .long (lI (F1 14 0 1))]) (rest := []) ⟨hx, hb, hml, hown, hts⟩ (c_M_strength (l := l) hc3) (cwV 3 hts (gdV k_13_175 k_13_177 ks_182 k_1_9 k_13_178) rfl rfl rfl (by decide +kernel) ⟨Nat.le_of_ble_eq_true rfl, Nat.le_of_ble_eq_true rfl⟩) (zPV X hZ2 hS2 (ci := 14) (by decide) (by decide) (r := (RX14, TX14, 107)) rfl [.ref (ad 13 l1 0), .long (lI (F1 14 0 0)), .long (lI (F1 14 0 1))]) rfl rfl hl.1 rfl (lv_room (Nat.le_of_ble_eq_true rfl)) (D_182 W_prog_15_method_85_code_32 16 rfl rfl rfl) ⟨Nat.le_of_ble_eq_true rfl, Nat.le_of_ble_eq_true rfl⟩) hS2 (fun q _ h => zAin X hS2 q h) (zAin X hS2) (fun p3 u3 t3 H3 locs3 ht3 hv3 hw3 hB3 hz3 hk3 hS3 => ?_)
  have hZ3 := zBack X ht3 hB3
  subst hw3
  refine lv_istore (lv' := [(11, .int (iI r3)), (10, .int (iI r2)), (8, .long (lI (F1 14 0 1))), (6, .long (lI (F1 14 0 0))), (0, .ref (ad 14 0 0)), (1, .ref (ad 13 l1 0)), (2, .long (lI l2)), (4, .long (lI l4))]) hx hb (D_54 W_prog_15_method_85_code_32 19 rfl rfl) hl (by decide) rfl (fun ls hl => ?_)
  refine lv_aload_n hx hb (D_42 W_prog_15_method_85_code_32 21 rfl rfl) rfl (lv_at hl 4 rfl) ?_
  refine lv_aload_n hx hb (D_43 W_prog_15_method_85_code_32 22 rfl rfl) rfl (lv_at hl 5 rfl) ?_
  refine lv_aload_n hx hb (D_42 W_prog_15_method_85_code_32 23 rfl rfl) rfl (lv_at hl 4 rfl) ?_
  refine zget (ci := 14) (C := RX14) (T := TX14) (v := .long (lI (F3 14 0 54))) (k := 54) hx hb hts inW_14 hown hK hZ3 (by decide) (by decide) rfl (by decide) k_11_52 rfl (D_180 W_prog_15_method_85_code_32 24 rfl rfl rfl) ?_
  refine lv_aload_n hx hb (D_42 W_prog_15_method_85_code_32 27 rfl rfl) rfl (lv_at hl 4 rfl) ?_
  refine zget (ci := 14) (C := RX14) (T := TX14) (v := .long (lI (F3 14 0 55))) (k := 55) hx hb hts inW_14 hown hK hZ3 (by decide) (by decide) rfl (by decide) k_11_53 rfl (D_180 W_prog_15_method_85_code_32 28 rfl rfl rfl) ?_
  refine lv_lload hx hb (D_22 W_prog_15_method_85_code_32 31 rfl rfl) (lv_at hl 3 rfl) ?_
  refine lv_lload hx hb (D_22 W_prog_15_method_85_code_64 1 rfl rfl) (lv_at hl 2 rfl) ?_
  obtain ⟨r4, F4, B4, hc4, hf⟩ := gbind hf
  refine va_calli (va_runV (As := [.ref (ad 13 l1 0), .long (lI (F3 14 0 54)), .long (lI (F3 14 0 55)), .long (lI (F1 14 0 0)), .long (lI (F1 14 0 1))]) (rest := []) ⟨hx, hb, hml, hown, hts⟩ (c_M_between_1 (l := l) hc4) (cwV 5 hts (gdV k_13_188 k_13_190 ks_183 k_1_9 k_13_191) rfl rfl rfl (by decide +kernel) ⟨Nat.le_of_ble_eq_true rfl, Nat.le_of_ble_eq_true rfl⟩) (zPV X hZ3 hS3 (ci := 14) (by decide) (by decide) (r := (RX14, TX14, 107)) rfl [.ref (ad 13 l1 0), .long (lI (F3 14 0 54)), .long (lI (F3 14 0 55)), .long (lI (F1 14 0 0)), .long (lI (F1 14 0 1))]) rfl rfl hl.1 rfl (lv_room (Nat.le_of_ble_eq_true rfl)) (D_182 W_prog_15_method_85_code_64 3 rfl rfl rfl) ⟨Nat.le_of_ble_eq_true rfl, Nat.le_of_ble_eq_true rfl⟩) hS3 (fun q _ h => zAin X hS3 q h) (zAin X hS3) (fun p4 u4 t4 H4 locs4 ht4 hv4 hw4 hB4 hz4 hk4 hS4 => ?_)
  have hZ4 := zBack X ht4 hB4
  subst hw4
  refine lv_iload hx hb (D_21 W_prog_15_method_85_code_64 6 rfl rfl) (lv_at hl 1 rfl) ?_
  refine lv_iload hx hb (D_21 W_prog_15_method_85_code_64 8 rfl rfl) (lv_at hl 0 rfl) ?_
  obtain ⟨g5, hf⟩ := gif hf
  obtain ⟨g6, hf⟩ := gif hf
  refine zle (tgt := 82) hx hb g5 g6 (D_164 W_prog_15_method_85_code_64 10 rfl rfl rfl) (by decide) (fun h7 => ?_) (fun h7 => ?_)
  · replace hf := gpos hf h7
    refine lv_iload hx hb (D_21 W_prog_15_method_85_code_64 18 rfl rfl) (lv_at hl 0 rfl) ?_
    exact b_M_stands_84 X hf hZ4 hS4 (lv_sub hl [] rfl)
  · replace hf := gneg hf h7
    refine lv_iload hx hb (D_21 W_prog_15_method_85_code_64 13 rfl rfl) (lv_at hl 1 rfl) ?_
    refine lv_goto (tgt := 84) hx hb (D_167 W_prog_15_method_85_code_64 15 rfl rfl rfl) (by decide) ?_
    exact b_M_stands_84 X hf hZ4 hS4 (lv_sub hl [] rfl)

abbrev Q_M_play (D : va_G) (ca : Nat → ClassId) (ad : Nat → Int → Nat → Nat) (L : List Nat) (r : Int) (F : zF) (B : zB) (A : Nat → Prop) : Array Value → State → Outcome → State → Prop := va_Qi (S := Unit) (fun p _ => p = iI r) (fun _ => zPo D ca ad lnM nM L F B A) A
def f_M_play_33 (K : Nat) : Nat → Int → Int → Int → zF → zB → zO
  | 0, _, _, _, _, _ => none
  | n + 1, l4, l3, l2, F, B => if r32 l4 then if r32 l2 then (if l2 ≤ l4 then if 0 ≤ l3 ∧ l3 < 3 then some (F 13 l3 65, (zup3 F 13 l3 66 l2), B) else none else if 0 ≤ l3 ∧ l3 < 3 then zbind (f_M_mixed K l3 (F 13 l3 65) F B) (fun r15 F15 B15 => if 0 ≤ l4 ∧ l4 < 1000 then zbind (f_M_coded K l3 (zup3 F15 13 l3 67 ((F 13 l3 67) + (zdv (r15 - (F15 13 l3 67)) 2))) (zup4 B15 13 l3 70 l4 ((F 13 l3 67) + (zdv (r15 - (F15 13 l3 67)) 2)))) (fun r19 F19 B19 => f_M_play_33 K n (l4 + 1) l3 l2 (zup3 F19 13 l3 65 ((F19 13 l3 65) + 1)) (zup4 B19 13 l3 71 l4 r19)) else none) else none) else none else none
set_option maxHeartbeats 4000000 in
set_option maxRecDepth 100000 in
theorem b_M_play_33 {D : va_G} {ca : Nat → ClassId} {ad : Nat → Int → Nat → Nat} {L : List Nat} {aS vS : Nat → Nat} {A : Nat → Prop} {p : Program} {l : Launch} {e : Env} {s : State} {m : MethodId} {args : Array Value} {below : List Frame} {meth : Method} {c : Code} {K : Nat} {r : Int} {F9 : zF} {B9 : zB} (X : zX D ca L aS vS A p s m args meth c prog_15_method_168_code 5 (Option.some Jvm.ClassFile.FieldType.int) "StaveHouseModel") : ∀ {n : Nat} {l4 : Int} {l3 : Int} {l2 : Int} {F : zF} {B : zB} {H : Heap} {locs : List Loc} {ls : Array Slot}, f_M_play_33 K n l4 l3 l2 F B = some (r, F9, B9) → zH D ca ad lnM nM L F B A H → va_S A s.heap H locs → lv_has ls 5 [(4, .int (iI l4)), (3, va_rf (zrf ad 13 l3)), (0, .ref (ad 14 0 0)), (2, .int (iI l2))] → W p l e ({ frames := 3, cells := 0, slots := 0, locals := 73 } : Room) s m args below meth c H locs 0 0 (MQ below (Q_M_play D ca ad L r F9 B9 A) args s 0 0 A) (F0 m 33 ls []) := by
  obtain ⟨hx, hb, hr, hml, hown, hts, hlk, hK, hA, hL, hX⟩ := id X
  intro n
  induction n with
  | zero =>
    intros
    rename_i hf _ _ _
    cases hf
  | succ n ih =>
    intro l4 l3 l2 F B H locs ls hf hZ hS hl
    replace hf : (if r32 l4 then if r32 l2 then (if l2 ≤ l4 then if 0 ≤ l3 ∧ l3 < 3 then some (F 13 l3 65, (zup3 F 13 l3 66 l2), B) else none else if 0 ≤ l3 ∧ l3 < 3 then zbind (f_M_mixed K l3 (F 13 l3 65) F B) (fun r15 F15 B15 => if 0 ≤ l4 ∧ l4 < 1000 then zbind (f_M_coded K l3 (zup3 F15 13 l3 67 ((F 13 l3 67) + (zdv (r15 - (F15 13 l3 67)) 2))) (zup4 B15 13 l3 70 l4 ((F 13 l3 67) + (zdv (r15 - (F15 13 l3 67)) 2)))) (fun r19 F19 B19 => f_M_play_33 K n (l4 + 1) l3 l2 (zup3 F19 13 l3 65 ((F19 13 l3 65) + 1)) (zup4 B19 13 l3 71 l4 r19)) else none) else none) else none else none) = some (r, F9, B9) := hf
    refine lv_iload hx hb (D_21 W_prog_15_method_168_code_32 1 rfl rfl) (lv_at hl 0 rfl) ?_
    refine lv_iload_n hx hb (D_28 W_prog_15_method_168_code_32 3 rfl rfl) rfl (lv_at hl 3 rfl) ?_
    obtain ⟨g9, hf⟩ := gif hf
    obtain ⟨g10, hf⟩ := gif hf
    refine zge (tgt := 103) hx hb g9 g10 (D_162 W_prog_15_method_168_code_32 4 rfl rfl rfl) (by decide) (fun h11 => ?_) (fun h11 => ?_)
    · replace hf := gpos hf h11
      refine zaload_n hx hb (D_45 W_prog_15_method_168_code_96 7 rfl rfl) rfl (lv_at hl 1 rfl) ?_
      refine lv_iload_n hx hb (D_28 W_prog_15_method_168_code_96 8 rfl rfl) rfl (lv_at hl 3 rfl) ?_
      obtain ⟨g12, hf⟩ := gif hf
      refine W.eq (g2 := F0 m 105 ls [.int (iI l2), .ref (ad 13 l3 0)]) (by rw [zrf_pos (ad := ad) (t := 13) g12.1]; try rfl) ?_
      refine zput (ci := 13) (C := RX13) (T := TX13) (k := 66) (v := l2) (w := .int (iI l2)) hx hb hts inW_13 tyX13 tyX13_ok nmX13 hown hK hZ hS g12.1 g12.2 rfl (by decide) k_10_3 rfl (fun G h => congrArg (fun q => Value.int (iI q)) h) rfl rfl (zno (by decide)) (D_181 W_prog_15_method_168_code_96 9 rfl rfl rfl) (fun H13 locs13 hZ13 hS13 => ?_)
      refine zaload_n hx hb (D_45 W_prog_15_method_168_code_96 12 rfl rfl) rfl (lv_at hl 1 rfl) ?_
      refine zunrf g12.1 ?_
      refine zget (ci := 13) (C := RX13) (T := TX13) (v := .int (iI (F 13 l3 65))) (k := 65) hx hb hts inW_13 hown hK hZ13 g12.1 g12.2 rfl (by decide) k_10_2 (congrArg (fun q : Int => Value.int (iI q)) (show (zup3 F 13 l3 66 l2) 13 l3 65 = F 13 l3 65 by simp [zup3])) (D_180 W_prog_15_method_168_code_96 13 rfl rfl rfl) ?_
      cases hf
      exact W.iret hx hb hr (fun t ht hW => ⟨⟨_, (), rfl, rfl, by rw [ht]; exact hZ13, va_K.moved hW.alike hK⟩, hS13.F ht⟩) hS13.2.2 (D_172 W_prog_15_method_168_code_96 16 rfl rfl) hlk
    · replace hf := gneg hf h11
      refine zaload_n hx hb (D_45 W_prog_15_method_168_code_32 7 rfl rfl) rfl (lv_at hl 1 rfl) ?_
      refine lv_dup hx hb (D_89 W_prog_15_method_168_code_32 8 rfl rfl) (zcat _) ?_
      obtain ⟨g14, hf⟩ := gif hf
      refine zunrf g14.1 ?_
      refine zget (ci := 13) (C := RX13) (T := TX13) (v := .int (iI (F 13 l3 67))) (k := 67) hx hb hts inW_13 hown hK hZ g14.1 g14.2 rfl (by decide) k_10_4 rfl (D_180 W_prog_15_method_168_code_32 9 rfl rfl rfl) ?_
      refine lv_aload_n hx hb (D_42 W_prog_15_method_168_code_32 12 rfl rfl) rfl (lv_at hl 2 rfl) ?_
      refine zaload_n hx hb (D_45 W_prog_15_method_168_code_32 13 rfl rfl) rfl (lv_at hl 1 rfl) ?_
      refine zaload_n hx hb (D_45 W_prog_15_method_168_code_32 14 rfl rfl) rfl (lv_at hl 1 rfl) ?_
      refine zunrf g14.1 ?_
      refine zget (ci := 13) (C := RX13) (T := TX13) (v := .int (iI (F 13 l3 65))) (k := 65) hx hb hts inW_13 hown hK hZ g14.1 g14.2 rfl (by decide) k_10_2 rfl (D_180 W_prog_15_method_168_code_32 15 rfl rfl rfl) ?_
      refine W.eq (g2 := F0 m 50 ls [.int (iI (F 13 l3 65)), va_rf (zrf ad 13 l3), .ref (ad 14 0 0), .int (iI (F 13 l3 67)), .ref (ad 13 l3 0)]) (by rw [zrf_pos (ad := ad) (t := 13) g14.1]; try rfl) ?_
      refine W.eq (g2 := F0 m 50 ls [.int (iI (F 13 l3 65)), .ref (ad 13 l3 0), .ref (ad 14 0 0), .int (iI (F 13 l3 67)), .ref (ad 13 l3 0)]) (by rw [zrf_pos (ad := ad) (t := 13) g14.1]; try rfl) ?_
      obtain ⟨r15, F15, B15, hc15, hf⟩ := gbind hf
      refine va_calli (va_runV (As := [.ref (ad 13 l3 0), .int (iI (F 13 l3 65))]) (rest := [.int (iI (F 13 l3 67)), .ref (ad 13 l3 0)]) ⟨hx, hb, hml, hown, hts⟩ (c_M_mixed (l := l) hc15) (cwV 2 hts (gdV k_13_207 k_13_209 ks_185 k_1_9 k_13_210) rfl rfl rfl (by decide +kernel) ⟨Nat.le_of_ble_eq_true rfl, Nat.le_of_ble_eq_true rfl⟩) (zPV X hZ hS (ci := 14) (by decide) (by decide) (r := (RX14, TX14, 107)) rfl [.ref (ad 13 l3 0), .int (iI (F 13 l3 65))]) rfl rfl hl.1 rfl (lv_room (Nat.le_of_ble_eq_true rfl)) (D_182 W_prog_15_method_168_code_32 18 rfl rfl rfl) ⟨Nat.le_of_ble_eq_true rfl, Nat.le_of_ble_eq_true rfl⟩) hS (fun q _ h => zAin X hS q h) (zAin X hS) (fun p15 u15 t15 H15 locs15 ht15 hv15 hw15 hB15 hz15 hk15 hS15 => ?_)
      have hZ15 := zBack X ht15 hB15
      subst hw15
      refine zaload_n hx hb (D_45 W_prog_15_method_168_code_32 21 rfl rfl) rfl (lv_at hl 1 rfl) ?_
      refine zunrf g14.1 ?_
      refine zget (ci := 13) (C := RX13) (T := TX13) (v := .int (iI (F15 13 l3 67))) (k := 67) hx hb hts inW_13 hown hK hZ15 g14.1 g14.2 rfl (by decide) k_10_4 rfl (D_180 W_prog_15_method_168_code_32 22 rfl rfl rfl) ?_
      refine zsub hx hb (D_100 W_prog_15_method_168_code_32 25 rfl rfl) ?_
      refine lv_iconst (v := iI 2) hx hb (D_5 W_prog_15_method_168_code_32 26 rfl rfl) rfl ?_
      refine zdv_r hx hb (by decide) (D_108 W_prog_15_method_168_code_32 27 rfl rfl) ?_
      refine zadd hx hb (D_96 W_prog_15_method_168_code_32 28 rfl rfl) ?_
      refine zput (ci := 13) (C := RX13) (T := TX13) (k := 67) (v := ((F 13 l3 67) + (zdv (r15 - (F15 13 l3 67)) 2))) (w := .int (iI ((F 13 l3 67) + (zdv (r15 - (F15 13 l3 67)) 2)))) hx hb hts inW_13 tyX13 tyX13_ok nmX13 hown hK hZ15 hS15 g14.1 g14.2 rfl (by decide) k_10_4 rfl (fun G h => congrArg (fun q => Value.int (iI q)) h) rfl rfl (zno (by decide)) (D_181 W_prog_15_method_168_code_32 29 rfl rfl rfl) (fun H16 locs16 hZ16 hS16 => ?_)
      refine zaload_n hx hb (D_45 W_prog_15_method_168_code_64 0 rfl rfl) rfl (lv_at hl 1 rfl) ?_
      refine zunrf g14.1 ?_
      refine zget (ci := 13) (C := RX13) (T := TX13) (v := .ref (ad 13 l3 (70 + 1))) (k := 70) hx hb hts inW_13 hown hK hZ16 g14.1 g14.2 rfl (by decide) k_10_8 rfl (D_180 W_prog_15_method_168_code_64 1 rfl rfl rfl) ?_
      refine lv_iload hx hb (D_21 W_prog_15_method_168_code_64 4 rfl rfl) (lv_at hl 0 rfl) ?_
      refine zaload_n hx hb (D_45 W_prog_15_method_168_code_64 6 rfl rfl) rfl (lv_at hl 1 rfl) ?_
      refine zunrf g14.1 ?_
      refine zget (ci := 13) (C := RX13) (T := TX13) (v := .int (iI ((F 13 l3 67) + (zdv (r15 - (F15 13 l3 67)) 2)))) (k := 67) hx hb hts inW_13 hown hK hZ16 g14.1 g14.2 rfl (by decide) k_10_4 (congrArg (fun q : Int => Value.int (iI q)) (show (zup3 F15 13 l3 67 ((F 13 l3 67) + (zdv (r15 - (F15 13 l3 67)) 2))) 13 l3 67 = (F 13 l3 67) + (zdv (r15 - (F15 13 l3 67)) 2) by simp [zup3])) (D_180 W_prog_15_method_168_code_64 7 rfl rfl rfl) ?_
      obtain ⟨g17, hf⟩ := gif hf
      refine zast (ci := 13) (k := 70) hx hb hK rfl hZ16 hS16 g14.1 g14.2 rfl (Nat.le_of_ble_eq_true rfl) g17.1 g17.2 (D_79 W_prog_15_method_168_code_64 10 rfl rfl) (fun H18 locs18 hZ18 hS18 => ?_)
      refine zaload_n hx hb (D_45 W_prog_15_method_168_code_64 11 rfl rfl) rfl (lv_at hl 1 rfl) ?_
      refine zunrf g14.1 ?_
      refine zget (ci := 13) (C := RX13) (T := TX13) (v := .ref (ad 13 l3 (71 + 1))) (k := 71) hx hb hts inW_13 hown hK hZ18 g14.1 g14.2 rfl (by decide) k_10_10 rfl (D_180 W_prog_15_method_168_code_64 12 rfl rfl rfl) ?_
      refine lv_iload hx hb (D_21 W_prog_15_method_168_code_64 15 rfl rfl) (lv_at hl 0 rfl) ?_
      refine lv_aload_n hx hb (D_42 W_prog_15_method_168_code_64 17 rfl rfl) rfl (lv_at hl 2 rfl) ?_
      refine zaload_n hx hb (D_45 W_prog_15_method_168_code_64 18 rfl rfl) rfl (lv_at hl 1 rfl) ?_
      refine W.eq (g2 := F0 m 83 ls [.ref (ad 13 l3 0), .ref (ad 14 0 0), .int (iI l4), .ref (ad 13 l3 (71 + 1))]) (by rw [zrf_pos (ad := ad) (t := 13) g14.1]; try rfl) ?_
      obtain ⟨r19, F19, B19, hc19, hf⟩ := gbind hf
      refine va_calli (va_runV (As := [.ref (ad 13 l3 0)]) (rest := [.int (iI l4), .ref (ad 13 l3 (71 + 1))]) ⟨hx, hb, hml, hown, hts⟩ (c_M_coded (l := l) hc19) (cwV 1 hts (gdV k_14_4 k_14_6 ks_187 k_1_9 k_14_7) rfl rfl rfl (by decide +kernel) ⟨Nat.le_of_ble_eq_true rfl, Nat.le_of_ble_eq_true rfl⟩) (zPV X hZ18 hS18 (ci := 14) (by decide) (by decide) (r := (RX14, TX14, 107)) rfl [.ref (ad 13 l3 0)]) rfl rfl hl.1 rfl (lv_room (Nat.le_of_ble_eq_true rfl)) (D_182 W_prog_15_method_168_code_64 19 rfl rfl rfl) ⟨Nat.le_of_ble_eq_true rfl, Nat.le_of_ble_eq_true rfl⟩) hS18 (fun q _ h => zAin X hS18 q h) (zAin X hS18) (fun p19 u19 t19 H19 locs19 ht19 hv19 hw19 hB19 hz19 hk19 hS19 => ?_)
      have hZ19 := zBack X ht19 hB19
      subst hw19
      refine zast (ci := 13) (k := 71) hx hb hK rfl hZ19 hS19 g14.1 g14.2 rfl (Nat.le_of_ble_eq_true rfl) g17.1 g17.2 (D_79 W_prog_15_method_168_code_64 22 rfl rfl) (fun H20 locs20 hZ20 hS20 => ?_)
      refine zaload_n hx hb (D_45 W_prog_15_method_168_code_64 23 rfl rfl) rfl (lv_at hl 1 rfl) ?_
      refine lv_dup hx hb (D_89 W_prog_15_method_168_code_64 24 rfl rfl) (zcat _) ?_
      refine zunrf g14.1 ?_
      refine zget (ci := 13) (C := RX13) (T := TX13) (v := .int (iI (F19 13 l3 65))) (k := 65) hx hb hts inW_13 hown hK hZ20 g14.1 g14.2 rfl (by decide) k_10_2 rfl (D_180 W_prog_15_method_168_code_64 25 rfl rfl rfl) ?_
      refine lv_iconst (v := iI 1) hx hb (D_4 W_prog_15_method_168_code_64 28 rfl rfl) rfl ?_
      refine zadd hx hb (D_96 W_prog_15_method_168_code_64 29 rfl rfl) ?_
      refine W.eq (g2 := F0 m 94 ls [.int (iI ((F19 13 l3 65) + 1)), .ref (ad 13 l3 0)]) (by rw [zrf_pos (ad := ad) (t := 13) g14.1]; try rfl) ?_
      refine zput (ci := 13) (C := RX13) (T := TX13) (k := 65) (v := ((F19 13 l3 65) + 1)) (w := .int (iI ((F19 13 l3 65) + 1))) hx hb hts inW_13 tyX13 tyX13_ok nmX13 hown hK hZ20 hS20 g14.1 g14.2 rfl (by decide) k_10_2 rfl (fun G h => congrArg (fun q => Value.int (iI q)) h) rfl rfl (zno (by decide)) (D_181 W_prog_15_method_168_code_64 30 rfl rfl rfl) (fun H21 locs21 hZ21 hS21 => ?_)
      refine lv_iinc (v := iI (l4 + 1)) (lv' := [(4, .int (iI (l4 + 1))), (3, va_rf (zrf ad 13 l3)), (0, .ref (ad 14 0 0)), (2, .int (iI l2))]) hx hb d_15_168_97 hl (k := 0) rfl (iI_add _ 1) (by decide) (by cases zrf ad 13 l3 <;> rfl) (fun ls hl => ?_)
      refine lv_goto (tgt := 33) hx hb (D_167 W_prog_15_method_168_code_96 4 rfl rfl rfl) (by decide) ?_
      exact ih hf hZ21 hS21 (lv_sub hl [0, 1, 2, 3] rfl)

def f_M_play_28 (K : Nat)  (F : zF) (B : zB) : zO := some ((-1), F, B)
set_option maxHeartbeats 4000000 in
set_option maxRecDepth 100000 in
theorem b_M_play_28 {D : va_G} {ca : Nat → ClassId} {ad : Nat → Int → Nat → Nat} {L : List Nat} {aS vS : Nat → Nat} {A : Nat → Prop} {p : Program} {l : Launch} {e : Env} {s : State} {m : MethodId} {args : Array Value} {below : List Frame} {meth : Method} {c : Code} {K : Nat} {r : Int} {F9 : zF} {B9 : zB} (X : zX D ca L aS vS A p s m args meth c prog_15_method_168_code 5 (Option.some Jvm.ClassFile.FieldType.int) "StaveHouseModel")  {F : zF} {B : zB} {H : Heap} {locs : List Loc} {ls : Array Slot} (hf : f_M_play_28 K  F B = some (r, F9, B9)) (hZ : zH D ca ad lnM nM L F B A H) (hS : va_S A s.heap H locs) (hl : lv_has ls 5 []) : W p l e ({ frames := 3, cells := 0, slots := 0, locals := 73 } : Room) s m args below meth c H locs 0 0 (MQ below (Q_M_play D ca ad L r F9 B9 A) args s 0 0 A) (F0 m 28 ls []) := by
  obtain ⟨hx, hb, hr, hml, hown, hts, hlk, hK, hA, hL, hX⟩ := id X
  replace hf : (some ((-1), F, B)) = some (r, F9, B9) := hf
  refine lv_iconst (v := iI (-1)) hx hb (D_2 W_prog_15_method_168_code_0 28 rfl rfl) rfl ?_
  cases hf
  exact W.iret hx hb hr (fun t ht hW => ⟨⟨_, (), rfl, rfl, by rw [ht]; exact hZ, va_K.moved hW.alike hK⟩, hS.F ht⟩) hS.2.2 (D_172 W_prog_15_method_168_code_0 29 rfl rfl) hlk

def f_M_play (K : Nat) (l1 : Int) (l2 : Int) (F : zF) (B : zB) : zO := zbind (f_M_piece K l1 F B) (fun r1 F1 B1 => (if r1 < 0 then f_M_play_28 K F1 B1 else if 0 ≤ r1 ∧ r1 < 3 then if r32 (F1 13 r1 53) then (if (F1 13 r1 53) = 0 then f_M_play_28 K F1 B1 else if r32 l2 then (if l2 < 0 then f_M_play_28 K F1 B1 else (if l2 ≤ 1000 then f_M_play_33 K K 0 r1 l2 F1 B1 else f_M_play_28 K F1 B1)) else none) else none else none))
set_option maxHeartbeats 4000000 in
set_option maxRecDepth 100000 in
theorem c_M_play {l : Launch} {D : va_G} {ca : Nat → ClassId} {ad : Nat → Int → Nat → Nat} {L : List Nat} {aS vS : Nat → Nat} {sz K : Nat}  {l1 : Int} {l2 : Int} {F F9 : zF} {B B9 : zB} {r : Int} (hf : f_M_play K l1 l2 F B = some (r, F9, B9)) : Met l ({ cls := "StaveHouseModel", name := "play", desc := "(II)I" } : Jvm.MethodName) (Cond.code ({ cls := "StaveHouseModel", name := "play", desc := "(II)I" } : Jvm.MethodName) prog_15_method_168_code 5 (Option.some Jvm.ClassFile.FieldType.int) :: wAll) ({ frames := 3, cells := 0, slots := 0, locals := 73 } : Room) (va_Pc [.ref (ad 14 0 0), .int (iI l1), .int (iI l2)] (zPre D ca ad lnM nM L aS vS F B sz)) (Q_M_play D ca ad L r F9 B9 (zA L sz)) 0 0 (zA L sz) := by
  refine zMet (Qc := Q_M_play D ca ad L r F9 B9) (lv := [(0, .ref (ad 14 0 0)), (1, .int (iI l1)), (2, .int (iI l2))]) (by decide) (Nat.le_of_ble_eq_true rfl) rfl (fun A p e s m below meth c ls X hZ hS hl => ?_)
  obtain ⟨hx, hb, hr, hml, hown, hts, hlk, hK, hA, hL, hX⟩ := id X
  replace hf : (zbind (f_M_piece K l1 F B) (fun r1 F1 B1 => (if r1 < 0 then f_M_play_28 K F1 B1 else if 0 ≤ r1 ∧ r1 < 3 then if r32 (F1 13 r1 53) then (if (F1 13 r1 53) = 0 then f_M_play_28 K F1 B1 else if r32 l2 then (if l2 < 0 then f_M_play_28 K F1 B1 else (if l2 ≤ 1000 then f_M_play_33 K K 0 r1 l2 F1 B1 else f_M_play_28 K F1 B1)) else none) else none else none))) = some (r, F9, B9) := hf
  refine lv_aload_n hx hb (D_42 W_prog_15_method_168_code_0 0 rfl rfl) rfl (lv_at hl 0 rfl) ?_
  refine lv_iload_n hx hb (D_27 W_prog_15_method_168_code_0 1 rfl rfl) rfl (lv_at hl 1 rfl) ?_
  obtain ⟨r1, F1, B1, hc1, hf⟩ := gbind hf
  refine va_callq (va_runV (As := [.int (iI l1)]) (rest := []) ⟨hx, hb, hml, hown, hts⟩ (c_M_piece (l := l) hc1) (cwV 1 hts (gdV k_12_92 k_12_94 ks_131 k_1_9 k_12_95) rfl rfl rfl (by decide +kernel) ⟨Nat.le_of_ble_eq_true rfl, Nat.le_of_ble_eq_true rfl⟩) (zPV X hZ hS (ci := 14) (by decide) (by decide) (r := (RX14, TX14, 107)) rfl [.int (iI l1)]) rfl rfl hl.1 rfl (lv_room (Nat.le_of_ble_eq_true rfl)) (D_182 W_prog_15_method_168_code_0 2 rfl rfl rfl) ⟨Nat.le_of_ble_eq_true rfl, Nat.le_of_ble_eq_true rfl⟩) hS (fun q _ h => zAin X hS q h) (zAin X hS) (fun p1 u1 t1 H1 locs1 ht1 hv1 hw1 hB1 hz1 hk1 hS1 => ?_)
  have hZ1 := zBack X ht1 hB1
  subst hw1
  refine zastore_n (lv' := [(0, .ref (ad 14 0 0)), (1, .int (iI l1)), (2, .int (iI l2))]) hx hb (D_78 W_prog_15_method_168_code_0 5 rfl rfl) rfl hl (by decide) (fun _ _ => rfl) (fun ls hl => ?_)
  refine zaload_n hx hb (D_45 W_prog_15_method_168_code_0 6 rfl rfl) rfl (lv_at hl 0 rfl) ?_
  refine zifnull (tgt := 28) hx hb (D_198 W_prog_15_method_168_code_0 7 rfl rfl rfl) (by decide) (fun h2 => ?_) (fun h2 => ?_)
  · replace hf := gpos hf h2
    exact b_M_play_28 X hf hZ1 hS1 (lv_sub hl [] rfl)
  · replace hf := gneg hf h2
    refine zaload_n hx hb (D_45 W_prog_15_method_168_code_0 10 rfl rfl) rfl (lv_at hl 0 rfl) ?_
    obtain ⟨g3, hf⟩ := gif hf
    refine zunrf g3.1 ?_
    refine zget (ci := 13) (C := RX13) (T := TX13) (v := .int (iI (F1 13 r1 53))) (k := 53) hx hb hts inW_13 hown hK hZ1 g3.1 g3.2 rfl (by decide) k_9_221 rfl (D_180 W_prog_15_method_168_code_0 11 rfl rfl rfl) ?_
    obtain ⟨g4, hf⟩ := gif hf
    refine z0eq (tgt := 28) hx hb g4 (D_153 W_prog_15_method_168_code_0 14 rfl rfl rfl) (by decide) (fun h5 => ?_) (fun h5 => ?_)
    · replace hf := gpos hf h5
      exact b_M_play_28 X hf hZ1 hS1 (lv_sub hl [] rfl)
    · replace hf := gneg hf h5
      refine lv_iload_n hx hb (D_28 W_prog_15_method_168_code_0 17 rfl rfl) rfl (lv_at hl 3 rfl) ?_
      obtain ⟨g6, hf⟩ := gif hf
      refine z0lt (tgt := 28) hx hb g6 (D_155 W_prog_15_method_168_code_0 18 rfl rfl rfl) (by decide) (fun h7 => ?_) (fun h7 => ?_)
      · replace hf := gpos hf h7
        exact b_M_play_28 X hf hZ1 hS1 (lv_sub hl [] rfl)
      · replace hf := gneg hf h7
        refine lv_iload_n hx hb (D_28 W_prog_15_method_168_code_0 21 rfl rfl) rfl (lv_at hl 3 rfl) ?_
        refine lv_sipush (v := iI 1000) hx hb (D_17 W_prog_15_method_168_code_0 22 rfl rfl rfl) (by decide) ?_
        refine zle (tgt := 30) hx hb g6 (by decide) (D_164 W_prog_15_method_168_code_0 25 rfl rfl rfl) (by decide) (fun h8 => ?_) (fun h8 => ?_)
        · replace hf := gpos hf h8
          refine lv_iconst (v := iI 0) hx hb (D_3 W_prog_15_method_168_code_0 30 rfl rfl) rfl ?_
          refine lv_istore (lv' := [(4, .int (iI 0)), (3, va_rf (zrf ad 13 r1)), (0, .ref (ad 14 0 0)), (1, .int (iI l1)), (2, .int (iI l2))]) hx hb (D_54 W_prog_15_method_168_code_0 31 rfl rfl) hl (by decide) (by cases zrf ad 13 r1 <;> rfl) (fun ls hl => ?_)
          exact b_M_play_33 X hf hZ1 hS1 (lv_sub hl [0, 1, 2, 4] rfl)
        · replace hf := gneg hf h8
          exact b_M_play_28 X hf hZ1 hS1 (lv_sub hl [] rfl)

abbrev Q_M_chordAt (D : va_G) (ca : Nat → ClassId) (ad : Nat → Int → Nat → Nat) (L : List Nat) (r : Int) (F : zF) (B : zB) (A : Nat → Prop) : Array Value → State → Outcome → State → Prop := va_Qv (S := Unit) (fun _ => True) (fun _ => zPo D ca ad lnM nM L F B A) A
def f_M_chordAt_48 (K : Nat)  (F : zF) (B : zB) : zO := some (0, F, B)
set_option maxHeartbeats 4000000 in
set_option maxRecDepth 100000 in
theorem b_M_chordAt_48 {D : va_G} {ca : Nat → ClassId} {ad : Nat → Int → Nat → Nat} {L : List Nat} {aS vS : Nat → Nat} {A : Nat → Prop} {p : Program} {l : Launch} {e : Env} {s : State} {m : MethodId} {args : Array Value} {below : List Frame} {meth : Method} {c : Code} {K : Nat} {r : Int} {F9 : zF} {B9 : zB} (X : zX D ca L aS vS A p s m args meth c prog_15_method_175_code 4 (Option.none : Option Jvm.ClassFile.FieldType) "StaveHouseModel")  {F : zF} {B : zB} {H : Heap} {locs : List Loc} {ls : Array Slot} (hf : f_M_chordAt_48 K  F B = some (r, F9, B9)) (hZ : zH D ca ad lnM nM L F B A H) (hS : va_S A s.heap H locs) (hl : lv_has ls 4 []) : W p l e ({ frames := 4, cells := 0, slots := 0, locals := 92 } : Room) s m args below meth c H locs 0 0 (MQ below (Q_M_chordAt D ca ad L r F9 B9 A) args s 0 0 A) (F0 m 48 ls []) := by
  obtain ⟨hx, hb, hr, hml, hown, hts, hlk, hK, hA, hL, hX⟩ := id X
  replace hf : (some (0, F, B)) = some (r, F9, B9) := hf
  cases hf
  exact W.vret hx hb hr (fun t ht hW => ⟨⟨(), rfl, trivial, by rw [ht]; exact hZ, va_K.moved hW.alike hK⟩, hS.F ht⟩) hS.2.2 (D_177 W_prog_15_method_175_code_32 16 rfl rfl) hlk

def f_M_chordAt_13 (K : Nat) : Nat → Int → zF → zB → zO
  | 0, _, _, _ => none
  | n + 1, l3, F, B => if r32 l3 then if r32 (F 14 0 100) then (if (F 14 0 100) ≤ l3 then f_M_chordAt_48 K F B else if r32 (F 14 0 104) then (if 0 ≤ (F 14 0 104) then f_M_chordAt_48 K F B else zbind (f_M_kindOn K l3 (zup3 F 14 0 105 l3) B) (fun r9 F9 B9 => f_M_chordAt_13 K n (l3 + 1) (zup3 F9 14 0 104 r9) B9)) else none) else none else none
set_option maxHeartbeats 4000000 in
set_option maxRecDepth 100000 in
theorem b_M_chordAt_13 {D : va_G} {ca : Nat → ClassId} {ad : Nat → Int → Nat → Nat} {L : List Nat} {aS vS : Nat → Nat} {A : Nat → Prop} {p : Program} {l : Launch} {e : Env} {s : State} {m : MethodId} {args : Array Value} {below : List Frame} {meth : Method} {c : Code} {K : Nat} {r : Int} {F9 : zF} {B9 : zB} (X : zX D ca L aS vS A p s m args meth c prog_15_method_175_code 4 (Option.none : Option Jvm.ClassFile.FieldType) "StaveHouseModel") : ∀ {n : Nat} {l3 : Int} {F : zF} {B : zB} {H : Heap} {locs : List Loc} {ls : Array Slot}, f_M_chordAt_13 K n l3 F B = some (r, F9, B9) → zH D ca ad lnM nM L F B A H → va_S A s.heap H locs → lv_has ls 4 [(3, .int (iI l3)), (0, .ref (ad 14 0 0))] → W p l e ({ frames := 4, cells := 0, slots := 0, locals := 92 } : Room) s m args below meth c H locs 0 0 (MQ below (Q_M_chordAt D ca ad L r F9 B9 A) args s 0 0 A) (F0 m 13 ls []) := by
  obtain ⟨hx, hb, hr, hml, hown, hts, hlk, hK, hA, hL, hX⟩ := id X
  intro n
  induction n with
  | zero =>
    intros
    rename_i hf _ _ _
    cases hf
  | succ n ih =>
    intro l3 F B H locs ls hf hZ hS hl
    replace hf : (if r32 l3 then if r32 (F 14 0 100) then (if (F 14 0 100) ≤ l3 then f_M_chordAt_48 K F B else if r32 (F 14 0 104) then (if 0 ≤ (F 14 0 104) then f_M_chordAt_48 K F B else zbind (f_M_kindOn K l3 (zup3 F 14 0 105 l3) B) (fun r9 F9 B9 => f_M_chordAt_13 K n (l3 + 1) (zup3 F9 14 0 104 r9) B9)) else none) else none else none) = some (r, F9, B9) := hf
    refine lv_iload_n hx hb (D_29 W_prog_15_method_175_code_0 13 rfl rfl) rfl (lv_at hl 0 rfl) ?_
    refine lv_aload_n hx hb (D_42 W_prog_15_method_175_code_0 14 rfl rfl) rfl (lv_at hl 1 rfl) ?_
    refine zget (ci := 14) (C := RX14) (T := TX14) (v := .int (iI (F 14 0 100))) (k := 100) hx hb hts inW_14 hown hK hZ (by decide) (by decide) rfl (by decide) k_11_98 rfl (D_180 W_prog_15_method_175_code_0 15 rfl rfl rfl) ?_
    obtain ⟨g3, hf⟩ := gif hf
    obtain ⟨g4, hf⟩ := gif hf
    refine zge (tgt := 48) hx hb g3 g4 (D_162 W_prog_15_method_175_code_0 18 rfl rfl rfl) (by decide) (fun h5 => ?_) (fun h5 => ?_)
    · replace hf := gpos hf h5
      exact b_M_chordAt_48 X hf hZ hS (lv_sub hl [] rfl)
    · replace hf := gneg hf h5
      refine lv_aload_n hx hb (D_42 W_prog_15_method_175_code_0 21 rfl rfl) rfl (lv_at hl 1 rfl) ?_
      refine zget (ci := 14) (C := RX14) (T := TX14) (v := .int (iI (F 14 0 104))) (k := 104) hx hb hts inW_14 hown hK hZ (by decide) (by decide) rfl (by decide) k_11_102 rfl (D_180 W_prog_15_method_175_code_0 22 rfl rfl rfl) ?_
      obtain ⟨g6, hf⟩ := gif hf
      refine z0ge (tgt := 48) hx hb g6 (D_156 W_prog_15_method_175_code_0 25 rfl rfl rfl) (by decide) (fun h7 => ?_) (fun h7 => ?_)
      · replace hf := gpos hf h7
        exact b_M_chordAt_48 X hf hZ hS (lv_sub hl [] rfl)
      · replace hf := gneg hf h7
        refine lv_aload_n hx hb (D_42 W_prog_15_method_175_code_0 28 rfl rfl) rfl (lv_at hl 1 rfl) ?_
        refine lv_iload_n hx hb (D_29 W_prog_15_method_175_code_0 29 rfl rfl) rfl (lv_at hl 0 rfl) ?_
        refine zput (ci := 14) (C := RX14) (T := TX14) (k := 105) (v := l3) (w := .int (iI l3)) hx hb hts inW_14 tyX14 tyX14_ok nmX14 hown hK hZ hS (by decide) (by decide) rfl (by decide) k_11_103 rfl (fun G h => congrArg (fun q => Value.int (iI q)) h) rfl rfl (zno (by decide)) (D_181 W_prog_15_method_175_code_0 30 rfl rfl rfl) (fun H8 locs8 hZ8 hS8 => ?_)
        refine lv_aload_n hx hb (D_42 W_prog_15_method_175_code_32 1 rfl rfl) rfl (lv_at hl 1 rfl) ?_
        refine lv_aload_n hx hb (D_42 W_prog_15_method_175_code_32 2 rfl rfl) rfl (lv_at hl 1 rfl) ?_
        refine lv_iload_n hx hb (D_29 W_prog_15_method_175_code_32 3 rfl rfl) rfl (lv_at hl 0 rfl) ?_
        obtain ⟨r9, F9, B9, hc9, hf⟩ := gbind hf
        refine va_calli (va_runV (As := [.int (iI l3)]) (rest := [.ref (ad 14 0 0)]) ⟨hx, hb, hml, hown, hts⟩ (c_M_kindOn (l := l) hc9) (cwV 1 hts (gdV k_14_29 k_14_31 ks_191 k_1_9 k_14_32) rfl rfl rfl (by decide +kernel) ⟨Nat.le_of_ble_eq_true rfl, Nat.le_of_ble_eq_true rfl⟩) (zPV X hZ8 hS8 (ci := 14) (by decide) (by decide) (r := (RX14, TX14, 107)) rfl [.int (iI l3)]) rfl rfl hl.1 rfl (lv_room (Nat.le_of_ble_eq_true rfl)) (D_182 W_prog_15_method_175_code_32 4 rfl rfl rfl) ⟨Nat.le_of_ble_eq_true rfl, Nat.le_of_ble_eq_true rfl⟩) hS8 (fun q _ h => zAin X hS8 q h) (zAin X hS8) (fun p9 u9 t9 H9 locs9 ht9 hv9 hw9 hB9 hz9 hk9 hS9 => ?_)
        have hZ9 := zBack X ht9 hB9
        subst hw9
        refine zput (ci := 14) (C := RX14) (T := TX14) (k := 104) (v := r9) (w := .int (iI r9)) hx hb hts inW_14 tyX14 tyX14_ok nmX14 hown hK hZ9 hS9 (by decide) (by decide) rfl (by decide) k_11_102 rfl (fun G h => congrArg (fun q => Value.int (iI q)) h) rfl rfl (zno (by decide)) (D_181 W_prog_15_method_175_code_32 7 rfl rfl rfl) (fun H10 locs10 hZ10 hS10 => ?_)
        refine lv_iinc (v := iI (l3 + 1)) (lv' := [(3, .int (iI (l3 + 1))), (0, .ref (ad 14 0 0))]) hx hb d_15_175_42 hl (k := 0) rfl (iI_add _ 1) (by decide) rfl (fun ls hl => ?_)
        refine lv_goto (tgt := 13) hx hb (D_167 W_prog_15_method_175_code_32 13 rfl rfl rfl) (by decide) ?_
        exact ih hf hZ10 hS10 (lv_sub hl [0, 1] rfl)

def f_M_chordAt (K : Nat) (l1 : Int) (l2 : Int) (F : zF) (B : zB) : zO := zbind (f_M_classesAt K l1 l2 F B) (fun r1 F1 B1 => f_M_chordAt_13 K K 0 (zup3 F1 14 0 104 (-1)) B1)
set_option maxHeartbeats 4000000 in
set_option maxRecDepth 100000 in
theorem c_M_chordAt {l : Launch} {D : va_G} {ca : Nat → ClassId} {ad : Nat → Int → Nat → Nat} {L : List Nat} {aS vS : Nat → Nat} {sz K : Nat}  {l1 : Int} {l2 : Int} {F F9 : zF} {B B9 : zB} {r : Int} (hf : f_M_chordAt K l1 l2 F B = some (r, F9, B9)) : Met l ({ cls := "StaveHouseModel", name := "chordAt", desc := "(LStaveHouseModel$Piece;I)V" } : Jvm.MethodName) (Cond.code ({ cls := "StaveHouseModel", name := "chordAt", desc := "(LStaveHouseModel$Piece;I)V" } : Jvm.MethodName) prog_15_method_175_code 4 (Option.none : Option Jvm.ClassFile.FieldType) :: wAll) ({ frames := 4, cells := 0, slots := 0, locals := 92 } : Room) (va_Pc [.ref (ad 14 0 0), .ref (ad 13 l1 0), .int (iI l2)] (zPre D ca ad lnM nM L aS vS F B sz)) (Q_M_chordAt D ca ad L r F9 B9 (zA L sz)) 0 0 (zA L sz) := by
  refine zMet (Qc := Q_M_chordAt D ca ad L r F9 B9) (lv := [(0, .ref (ad 14 0 0)), (1, .ref (ad 13 l1 0)), (2, .int (iI l2))]) (by decide) (Nat.le_of_ble_eq_true rfl) rfl (fun A p e s m below meth c ls X hZ hS hl => ?_)
  obtain ⟨hx, hb, hr, hml, hown, hts, hlk, hK, hA, hL, hX⟩ := id X
  replace hf : (zbind (f_M_classesAt K l1 l2 F B) (fun r1 F1 B1 => f_M_chordAt_13 K K 0 (zup3 F1 14 0 104 (-1)) B1)) = some (r, F9, B9) := hf
  refine lv_aload_n hx hb (D_42 W_prog_15_method_175_code_0 0 rfl rfl) rfl (lv_at hl 0 rfl) ?_
  refine lv_aload_n hx hb (D_43 W_prog_15_method_175_code_0 1 rfl rfl) rfl (lv_at hl 1 rfl) ?_
  refine lv_iload_n hx hb (D_28 W_prog_15_method_175_code_0 2 rfl rfl) rfl (lv_at hl 2 rfl) ?_
  obtain ⟨r1, F1, B1, hc1, hf⟩ := gbind hf
  refine va_callv (va_runV (As := [.ref (ad 13 l1 0), .int (iI l2)]) (rest := []) ⟨hx, hb, hml, hown, hts⟩ (c_M_classesAt (l := l) hc1) (cwV 2 hts (gdV k_14_21 k_14_23 ks_189 k_1_9 k_14_24) rfl rfl rfl (by decide +kernel) ⟨Nat.le_of_ble_eq_true rfl, Nat.le_of_ble_eq_true rfl⟩) (zPV X hZ hS (ci := 14) (by decide) (by decide) (r := (RX14, TX14, 107)) rfl [.ref (ad 13 l1 0), .int (iI l2)]) rfl rfl hl.1 rfl (lv_room (Nat.le_of_ble_eq_true rfl)) (D_182 W_prog_15_method_175_code_0 3 rfl rfl rfl) ⟨Nat.le_of_ble_eq_true rfl, Nat.le_of_ble_eq_true rfl⟩) hS (fun q _ h => zAin X hS q h) (zAin X hS) (fun u1 t1 H1 locs1 ht1 hv1 hw1 hB1 hz1 hk1 hS1 => ?_)
  have hZ1 := zBack X ht1 hB1
  refine lv_aload_n hx hb (D_42 W_prog_15_method_175_code_0 6 rfl rfl) rfl (lv_at hl 0 rfl) ?_
  refine lv_iconst (v := iI (-1)) hx hb (D_2 W_prog_15_method_175_code_0 7 rfl rfl) rfl ?_
  refine zput (ci := 14) (C := RX14) (T := TX14) (k := 104) (v := (-1)) (w := .int (iI (-1))) hx hb hts inW_14 tyX14 tyX14_ok nmX14 hown hK hZ1 hS1 (by decide) (by decide) rfl (by decide) k_11_102 rfl (fun G h => congrArg (fun q => Value.int (iI q)) h) rfl rfl (zno (by decide)) (D_181 W_prog_15_method_175_code_0 8 rfl rfl rfl) (fun H2 locs2 hZ2 hS2 => ?_)
  refine lv_iconst (v := iI 0) hx hb (D_3 W_prog_15_method_175_code_0 11 rfl rfl) rfl ?_
  refine lv_istore_n (lv' := [(3, .int (iI 0)), (0, .ref (ad 14 0 0)), (1, .ref (ad 13 l1 0)), (2, .int (iI l2))]) hx hb (D_62 W_prog_15_method_175_code_0 12 rfl rfl) rfl hl (by decide) rfl (fun ls hl => ?_)
  exact b_M_chordAt_13 X hf hZ2 hS2 (lv_sub hl [0, 1] rfl)

abbrev Q_M_cut (D : va_G) (ca : Nat → ClassId) (ad : Nat → Int → Nat → Nat) (L : List Nat) (r : Int) (F : zF) (B : zB) (A : Nat → Prop) : Array Value → State → Outcome → State → Prop := va_Qv (S := Unit) (fun _ => True) (fun _ => zPo D ca ad lnM nM L F B A) A
def f_M_cut_124 (rec7 : Int → zF → zB → zO) (K : Nat) (l1 : Int) (F : zF) (B : zB) : zO := rec7 l1 (zup3 F 14 0 12 ((F 14 0 12) + 1)) B
set_option maxHeartbeats 4000000 in
set_option maxRecDepth 100000 in
theorem b_M_cut_124 {D : va_G} {ca : Nat → ClassId} {ad : Nat → Int → Nat → Nat} {L : List Nat} {aS vS : Nat → Nat} {A : Nat → Prop} {p : Program} {l : Launch} {e : Env} {s : State} {m : MethodId} {args : Array Value} {below : List Frame} {meth : Method} {c : Code} {K : Nat} {r : Int} {F9 : zF} {B9 : zB} (X : zX D ca L aS vS A p s m args meth c prog_15_method_25_code 3 (Option.none : Option Jvm.ClassFile.FieldType) "StaveHouseModel") {rec7 : Int → zF → zB → zO} (hrec7 : ∀ {l1 : Int} {F : zF} {B : zB} {H : Heap} {locs : List Loc} {ls : Array Slot}, rec7 l1 F B = some (r, F9, B9) → zH D ca ad lnM nM L F B A H → va_S A s.heap H locs → lv_has ls 3 [(1, .int (iI l1)), (0, .ref (ad 14 0 0))] → W p l e ({ frames := 5, cells := 0, slots := 0, locals := 108 } : Room) s m args below meth c H locs 0 0 (MQ below (Q_M_cut D ca ad L r F9 B9 A) args s 0 0 A) (F0 m 7 ls [])) {l1 : Int} {F : zF} {B : zB} {H : Heap} {locs : List Loc} {ls : Array Slot} (hf : f_M_cut_124 rec7 K l1 F B = some (r, F9, B9)) (hZ : zH D ca ad lnM nM L F B A H) (hS : va_S A s.heap H locs) (hl : lv_has ls 3 [(1, .int (iI l1)), (0, .ref (ad 14 0 0))]) : W p l e ({ frames := 5, cells := 0, slots := 0, locals := 108 } : Room) s m args below meth c H locs 0 0 (MQ below (Q_M_cut D ca ad L r F9 B9 A) args s 0 0 A) (F0 m 124 ls []) := by
  obtain ⟨hx, hb, hr, hml, hown, hts, hlk, hK, hA, hL, hX⟩ := id X
  replace hf : (rec7 l1 (zup3 F 14 0 12 ((F 14 0 12) + 1)) B) = some (r, F9, B9) := hf
  refine lv_aload_n hx hb (D_42 W_prog_15_method_25_code_96 28 rfl rfl) rfl (lv_at hl 1 rfl) ?_
  refine lv_dup hx hb (D_89 W_prog_15_method_25_code_96 29 rfl rfl) rfl ?_
  refine zget (ci := 14) (C := RX14) (T := TX14) (v := .int (iI (F 14 0 12))) (k := 12) hx hb hts inW_14 hown hK hZ (by decide) (by decide) rfl (by decide) k_11_10 rfl (D_180 W_prog_15_method_25_code_96 30 rfl rfl rfl) ?_
  refine lv_iconst (v := iI 1) hx hb (D_4 W_prog_15_method_25_code_128 1 rfl rfl) rfl ?_
  refine zadd hx hb (D_96 W_prog_15_method_25_code_128 2 rfl rfl) ?_
  refine zput (ci := 14) (C := RX14) (T := TX14) (k := 12) (v := ((F 14 0 12) + 1)) (w := .int (iI ((F 14 0 12) + 1))) hx hb hts inW_14 tyX14 tyX14_ok nmX14 hown hK hZ hS (by decide) (by decide) rfl (by decide) k_11_10 rfl (fun G h => congrArg (fun q => Value.int (iI q)) h) rfl rfl (zno (by decide)) (D_181 W_prog_15_method_25_code_128 3 rfl rfl rfl) (fun H24 locs24 hZ24 hS24 => ?_)
  refine lv_goto (tgt := 7) hx hb (D_167 W_prog_15_method_25_code_128 6 rfl rfl rfl) (by decide) ?_
  exact hrec7 hf hZ24 hS24 (lv_sub hl [0, 1] rfl)

def f_M_cut_110 (rec7 : Int → zF → zB → zO) (K : Nat) (l2 : Int) (l1 : Int) (s1 : Int) (s2 : Int) (F : zF) (B : zB) : zO := if 0 ≤ s1 ∧ s1 < 3001 then if 0 ≤ (F 14 0 12) ∧ (F 14 0 12) < 3001 then f_M_cut_124 rec7 K (l1 + 1) F (zup4 (zup4 B 14 0 7 s1 s2) 14 0 9 (F 14 0 12) l2) else none else none
set_option maxHeartbeats 4000000 in
set_option maxRecDepth 100000 in
theorem b_M_cut_110 {D : va_G} {ca : Nat → ClassId} {ad : Nat → Int → Nat → Nat} {L : List Nat} {aS vS : Nat → Nat} {A : Nat → Prop} {p : Program} {l : Launch} {e : Env} {s : State} {m : MethodId} {args : Array Value} {below : List Frame} {meth : Method} {c : Code} {K : Nat} {r : Int} {F9 : zF} {B9 : zB} (X : zX D ca L aS vS A p s m args meth c prog_15_method_25_code 3 (Option.none : Option Jvm.ClassFile.FieldType) "StaveHouseModel") {rec7 : Int → zF → zB → zO} (hrec7 : ∀ {l1 : Int} {F : zF} {B : zB} {H : Heap} {locs : List Loc} {ls : Array Slot}, rec7 l1 F B = some (r, F9, B9) → zH D ca ad lnM nM L F B A H → va_S A s.heap H locs → lv_has ls 3 [(1, .int (iI l1)), (0, .ref (ad 14 0 0))] → W p l e ({ frames := 5, cells := 0, slots := 0, locals := 108 } : Room) s m args below meth c H locs 0 0 (MQ below (Q_M_cut D ca ad L r F9 B9 A) args s 0 0 A) (F0 m 7 ls [])) {l2 : Int} {l1 : Int} {s1 : Int} {s2 : Int} {F : zF} {B : zB} {H : Heap} {locs : List Loc} {ls : Array Slot} (hf : f_M_cut_110 rec7 K l2 l1 s1 s2 F B = some (r, F9, B9)) (hZ : zH D ca ad lnM nM L F B A H) (hS : va_S A s.heap H locs) (hl : lv_has ls 3 [(2, .int (iI l2)), (1, .int (iI l1)), (0, .ref (ad 14 0 0))]) : W p l e ({ frames := 5, cells := 0, slots := 0, locals := 108 } : Room) s m args below meth c H locs 0 0 (MQ below (Q_M_cut D ca ad L r F9 B9 A) args s 0 0 A) (F0 m 110 ls [.int (iI s2), .int (iI s1), .ref (ad 14 0 (7 + 1))]) := by
  obtain ⟨hx, hb, hr, hml, hown, hts, hlk, hK, hA, hL, hX⟩ := id X
  replace hf : (if 0 ≤ s1 ∧ s1 < 3001 then if 0 ≤ (F 14 0 12) ∧ (F 14 0 12) < 3001 then f_M_cut_124 rec7 K (l1 + 1) F (zup4 (zup4 B 14 0 7 s1 s2) 14 0 9 (F 14 0 12) l2) else none else none) = some (r, F9, B9) := hf
  obtain ⟨g25, hf⟩ := gif hf
  refine zast (ci := 14) (k := 7) hx hb hK rfl hZ hS (by decide) (by decide) rfl (Nat.le_of_ble_eq_true rfl) g25.1 g25.2 (D_79 W_prog_15_method_25_code_96 14 rfl rfl) (fun H26 locs26 hZ26 hS26 => ?_)
  refine lv_aload_n hx hb (D_42 W_prog_15_method_25_code_96 15 rfl rfl) rfl (lv_at hl 2 rfl) ?_
  refine zget (ci := 14) (C := RX14) (T := TX14) (v := .ref (ad 14 0 (9 + 1))) (k := 9) hx hb hts inW_14 hown hK hZ26 (by decide) (by decide) rfl (by decide) k_11_7 rfl (D_180 W_prog_15_method_25_code_96 16 rfl rfl rfl) ?_
  refine lv_aload_n hx hb (D_42 W_prog_15_method_25_code_96 19 rfl rfl) rfl (lv_at hl 2 rfl) ?_
  refine zget (ci := 14) (C := RX14) (T := TX14) (v := .int (iI (F 14 0 12))) (k := 12) hx hb hts inW_14 hown hK hZ26 (by decide) (by decide) rfl (by decide) k_11_10 rfl (D_180 W_prog_15_method_25_code_96 20 rfl rfl rfl) ?_
  refine lv_iload_n hx hb (D_28 W_prog_15_method_25_code_96 23 rfl rfl) rfl (lv_at hl 0 rfl) ?_
  obtain ⟨g27, hf⟩ := gif hf
  refine zast (ci := 14) (k := 9) hx hb hK rfl hZ26 hS26 (by decide) (by decide) rfl (Nat.le_of_ble_eq_true rfl) g27.1 g27.2 (D_79 W_prog_15_method_25_code_96 24 rfl rfl) (fun H28 locs28 hZ28 hS28 => ?_)
  refine lv_iinc (v := iI (l1 + 1)) (lv' := [(1, .int (iI (l1 + 1))), (2, .int (iI l2)), (0, .ref (ad 14 0 0))]) hx hb d_15_25_121 hl (k := 1) rfl (iI_add _ 1) (by decide) rfl (fun ls hl => ?_)
  exact b_M_cut_124 X hrec7 hf hZ28 hS28 (lv_sub hl [0, 2] rfl)

def f_M_cut_45 (rec7 : Int → zF → zB → zO) (K : Nat) (l1 : Int) (F : zF) (B : zB) : zO := rec7 (l1 + 1) F B
set_option maxHeartbeats 4000000 in
set_option maxRecDepth 100000 in
theorem b_M_cut_45 {D : va_G} {ca : Nat → ClassId} {ad : Nat → Int → Nat → Nat} {L : List Nat} {aS vS : Nat → Nat} {A : Nat → Prop} {p : Program} {l : Launch} {e : Env} {s : State} {m : MethodId} {args : Array Value} {below : List Frame} {meth : Method} {c : Code} {K : Nat} {r : Int} {F9 : zF} {B9 : zB} (X : zX D ca L aS vS A p s m args meth c prog_15_method_25_code 3 (Option.none : Option Jvm.ClassFile.FieldType) "StaveHouseModel") {rec7 : Int → zF → zB → zO} (hrec7 : ∀ {l1 : Int} {F : zF} {B : zB} {H : Heap} {locs : List Loc} {ls : Array Slot}, rec7 l1 F B = some (r, F9, B9) → zH D ca ad lnM nM L F B A H → va_S A s.heap H locs → lv_has ls 3 [(1, .int (iI l1)), (0, .ref (ad 14 0 0))] → W p l e ({ frames := 5, cells := 0, slots := 0, locals := 108 } : Room) s m args below meth c H locs 0 0 (MQ below (Q_M_cut D ca ad L r F9 B9 A) args s 0 0 A) (F0 m 7 ls [])) {l1 : Int} {F : zF} {B : zB} {H : Heap} {locs : List Loc} {ls : Array Slot} (hf : f_M_cut_45 rec7 K l1 F B = some (r, F9, B9)) (hZ : zH D ca ad lnM nM L F B A H) (hS : va_S A s.heap H locs) (hl : lv_has ls 3 [(1, .int (iI l1)), (0, .ref (ad 14 0 0))]) : W p l e ({ frames := 5, cells := 0, slots := 0, locals := 108 } : Room) s m args below meth c H locs 0 0 (MQ below (Q_M_cut D ca ad L r F9 B9 A) args s 0 0 A) (F0 m 45 ls []) := by
  obtain ⟨hx, hb, hr, hml, hown, hts, hlk, hK, hA, hL, hX⟩ := id X
  replace hf : (rec7 (l1 + 1) F B) = some (r, F9, B9) := hf
  refine lv_iinc (v := iI (l1 + 1)) (lv' := [(1, .int (iI (l1 + 1))), (0, .ref (ad 14 0 0))]) hx hb d_15_25_45 hl (k := 0) rfl (iI_add _ 1) (by decide) rfl (fun ls hl => ?_)
  refine lv_goto (tgt := 7) hx hb (D_167 W_prog_15_method_25_code_32 16 rfl rfl rfl) (by decide) ?_
  exact hrec7 hf hZ hS (lv_sub hl [0, 1] rfl)

def f_M_cut_7 (K : Nat) : Nat → Int → zF → zB → zO
  | 0, _, _, _ => none
  | n + 1, l1, F, B => if r32 l1 then if r32 (F 14 0 3) then (if (F 14 0 3) ≤ l1 then if 0 ≤ (F 14 0 12) ∧ (F 14 0 12) < 3001 then some (0, F, (zup4 (zup4 B 14 0 7 (F 14 0 12) 0) 14 0 8 (F 14 0 12) (F 14 0 3))) else none else zbind (f_M_byteAt K l1 F B) (fun r8 F8 B8 => if r32 r8 then (if r8 = 9 then f_M_cut_45 (f_M_cut_7 K n) K l1 F8 B8 else (if r8 = 10 then f_M_cut_45 (f_M_cut_7 K n) K l1 F8 B8 else (if r8 = 13 then f_M_cut_45 (f_M_cut_7 K n) K l1 F8 B8 else (if r8 = 32 then f_M_cut_45 (f_M_cut_7 K n) K l1 F8 B8 else if 0 ≤ (F8 14 0 12) ∧ (F8 14 0 12) < 3001 then zbind (f_M_isRun K r8 F8 (zup4 (zup4 B8 14 0 8 (F8 14 0 12) l1) 14 0 11 (F8 14 0 12) 0)) (fun r17 F17 B17 => if r32 r17 then (if r17 = 0 then zbind (f_M_isOneOf K 35 r8 F17 B17) (fun r20 F20 B20 => if r32 r20 then (if r20 = 0 then f_M_cut_110 (f_M_cut_7 K n) K r8 l1 (F17 14 0 12) 1 F20 B20 else f_M_cut_110 (f_M_cut_7 K n) K r8 l1 (F17 14 0 12) 5 F20 B20) else none) else zbind (f_M_cutRun K l1 F17 B17) (fun r23 F23 B23 => f_M_cut_124 (f_M_cut_7 K n) K r23 F23 B23)) else none) else none)))) else none)) else none else none
set_option maxHeartbeats 4000000 in
set_option maxRecDepth 100000 in
theorem b_M_cut_7 {D : va_G} {ca : Nat → ClassId} {ad : Nat → Int → Nat → Nat} {L : List Nat} {aS vS : Nat → Nat} {A : Nat → Prop} {p : Program} {l : Launch} {e : Env} {s : State} {m : MethodId} {args : Array Value} {below : List Frame} {meth : Method} {c : Code} {K : Nat} {r : Int} {F9 : zF} {B9 : zB} (X : zX D ca L aS vS A p s m args meth c prog_15_method_25_code 3 (Option.none : Option Jvm.ClassFile.FieldType) "StaveHouseModel") : ∀ {n : Nat} {l1 : Int} {F : zF} {B : zB} {H : Heap} {locs : List Loc} {ls : Array Slot}, f_M_cut_7 K n l1 F B = some (r, F9, B9) → zH D ca ad lnM nM L F B A H → va_S A s.heap H locs → lv_has ls 3 [(1, .int (iI l1)), (0, .ref (ad 14 0 0))] → W p l e ({ frames := 5, cells := 0, slots := 0, locals := 108 } : Room) s m args below meth c H locs 0 0 (MQ below (Q_M_cut D ca ad L r F9 B9 A) args s 0 0 A) (F0 m 7 ls []) := by
  obtain ⟨hx, hb, hr, hml, hown, hts, hlk, hK, hA, hL, hX⟩ := id X
  intro n
  induction n with
  | zero =>
    intros
    rename_i hf _ _ _
    cases hf
  | succ n ih =>
    intro l1 F B H locs ls hf hZ hS hl
    replace hf : (if r32 l1 then if r32 (F 14 0 3) then (if (F 14 0 3) ≤ l1 then if 0 ≤ (F 14 0 12) ∧ (F 14 0 12) < 3001 then some (0, F, (zup4 (zup4 B 14 0 7 (F 14 0 12) 0) 14 0 8 (F 14 0 12) (F 14 0 3))) else none else zbind (f_M_byteAt K l1 F B) (fun r8 F8 B8 => if r32 r8 then (if r8 = 9 then f_M_cut_45 (f_M_cut_7 K n) K l1 F8 B8 else (if r8 = 10 then f_M_cut_45 (f_M_cut_7 K n) K l1 F8 B8 else (if r8 = 13 then f_M_cut_45 (f_M_cut_7 K n) K l1 F8 B8 else (if r8 = 32 then f_M_cut_45 (f_M_cut_7 K n) K l1 F8 B8 else if 0 ≤ (F8 14 0 12) ∧ (F8 14 0 12) < 3001 then zbind (f_M_isRun K r8 F8 (zup4 (zup4 B8 14 0 8 (F8 14 0 12) l1) 14 0 11 (F8 14 0 12) 0)) (fun r17 F17 B17 => if r32 r17 then (if r17 = 0 then zbind (f_M_isOneOf K 35 r8 F17 B17) (fun r20 F20 B20 => if r32 r20 then (if r20 = 0 then f_M_cut_110 (f_M_cut_7 K n) K r8 l1 (F17 14 0 12) 1 F20 B20 else f_M_cut_110 (f_M_cut_7 K n) K r8 l1 (F17 14 0 12) 5 F20 B20) else none) else zbind (f_M_cutRun K l1 F17 B17) (fun r23 F23 B23 => f_M_cut_124 (f_M_cut_7 K n) K r23 F23 B23)) else none) else none)))) else none)) else none else none) = some (r, F9, B9) := hf
    refine lv_iload_n hx hb (D_27 W_prog_15_method_25_code_0 7 rfl rfl) rfl (lv_at hl 0 rfl) ?_
    refine lv_aload_n hx hb (D_42 W_prog_15_method_25_code_0 8 rfl rfl) rfl (lv_at hl 1 rfl) ?_
    refine zget (ci := 14) (C := RX14) (T := TX14) (v := .int (iI (F 14 0 3))) (k := 3) hx hb hts inW_14 hown hK hZ (by decide) (by decide) rfl (by decide) k_11_1 rfl (D_180 W_prog_15_method_25_code_0 9 rfl rfl rfl) ?_
    obtain ⟨g2, hf⟩ := gif hf
    obtain ⟨g3, hf⟩ := gif hf
    refine zge (tgt := 137) hx hb g2 g3 (D_162 W_prog_15_method_25_code_0 12 rfl rfl rfl) (by decide) (fun h4 => ?_) (fun h4 => ?_)
    · replace hf := gpos hf h4
      refine lv_aload_n hx hb (D_42 W_prog_15_method_25_code_128 9 rfl rfl) rfl (lv_at hl 1 rfl) ?_
      refine zget (ci := 14) (C := RX14) (T := TX14) (v := .ref (ad 14 0 (7 + 1))) (k := 7) hx hb hts inW_14 hown hK hZ (by decide) (by decide) rfl (by decide) k_11_5 rfl (D_180 W_prog_15_method_25_code_128 10 rfl rfl rfl) ?_
      refine lv_aload_n hx hb (D_42 W_prog_15_method_25_code_128 13 rfl rfl) rfl (lv_at hl 1 rfl) ?_
      refine zget (ci := 14) (C := RX14) (T := TX14) (v := .int (iI (F 14 0 12))) (k := 12) hx hb hts inW_14 hown hK hZ (by decide) (by decide) rfl (by decide) k_11_10 rfl (D_180 W_prog_15_method_25_code_128 14 rfl rfl rfl) ?_
      refine lv_iconst (v := iI 0) hx hb (D_3 W_prog_15_method_25_code_128 17 rfl rfl) rfl ?_
      obtain ⟨g5, hf⟩ := gif hf
      refine zast (ci := 14) (k := 7) hx hb hK rfl hZ hS (by decide) (by decide) rfl (Nat.le_of_ble_eq_true rfl) g5.1 g5.2 (D_79 W_prog_15_method_25_code_128 18 rfl rfl) (fun H6 locs6 hZ6 hS6 => ?_)
      refine lv_aload_n hx hb (D_42 W_prog_15_method_25_code_128 19 rfl rfl) rfl (lv_at hl 1 rfl) ?_
      refine zget (ci := 14) (C := RX14) (T := TX14) (v := .ref (ad 14 0 (8 + 1))) (k := 8) hx hb hts inW_14 hown hK hZ6 (by decide) (by decide) rfl (by decide) k_11_6 rfl (D_180 W_prog_15_method_25_code_128 20 rfl rfl rfl) ?_
      refine lv_aload_n hx hb (D_42 W_prog_15_method_25_code_128 23 rfl rfl) rfl (lv_at hl 1 rfl) ?_
      refine zget (ci := 14) (C := RX14) (T := TX14) (v := .int (iI (F 14 0 12))) (k := 12) hx hb hts inW_14 hown hK hZ6 (by decide) (by decide) rfl (by decide) k_11_10 rfl (D_180 W_prog_15_method_25_code_128 24 rfl rfl rfl) ?_
      refine lv_aload_n hx hb (D_42 W_prog_15_method_25_code_128 27 rfl rfl) rfl (lv_at hl 1 rfl) ?_
      refine zget (ci := 14) (C := RX14) (T := TX14) (v := .int (iI (F 14 0 3))) (k := 3) hx hb hts inW_14 hown hK hZ6 (by decide) (by decide) rfl (by decide) k_11_1 rfl (D_180 W_prog_15_method_25_code_128 28 rfl rfl rfl) ?_
      refine zast (ci := 14) (k := 8) hx hb hK rfl hZ6 hS6 (by decide) (by decide) rfl (Nat.le_of_ble_eq_true rfl) g5.1 g5.2 (D_79 W_prog_15_method_25_code_128 31 rfl rfl) (fun H7 locs7 hZ7 hS7 => ?_)
      cases hf
      exact W.vret hx hb hr (fun t ht hW => ⟨⟨(), rfl, trivial, by rw [ht]; exact hZ7, va_K.moved hW.alike hK⟩, hS7.F ht⟩) hS7.2.2 (D_177 W_prog_15_method_25_code_160 0 rfl rfl) hlk
    · replace hf := gneg hf h4
      refine lv_aload_n hx hb (D_42 W_prog_15_method_25_code_0 15 rfl rfl) rfl (lv_at hl 1 rfl) ?_
      refine lv_iload_n hx hb (D_27 W_prog_15_method_25_code_0 16 rfl rfl) rfl (lv_at hl 0 rfl) ?_
      obtain ⟨r8, F8, B8, hc8, hf⟩ := gbind hf
      refine va_calli (va_runV (As := [.int (iI l1)]) (rest := []) ⟨hx, hb, hml, hown, hts⟩ (c_M_byteAt (l := l) hc8) (cwV 1 hts (gdV k_13_23 k_13_25 ks_154 k_1_9 k_13_26) rfl rfl rfl (by decide +kernel) ⟨Nat.le_of_ble_eq_true rfl, Nat.le_of_ble_eq_true rfl⟩) (zPV X hZ hS (ci := 14) (by decide) (by decide) (r := (RX14, TX14, 107)) rfl [.int (iI l1)]) rfl rfl hl.1 rfl (lv_room (Nat.le_of_ble_eq_true rfl)) (D_182 W_prog_15_method_25_code_0 17 rfl rfl rfl) ⟨Nat.le_of_ble_eq_true rfl, Nat.le_of_ble_eq_true rfl⟩) hS (fun q _ h => zAin X hS q h) (zAin X hS) (fun p8 u8 t8 H8 locs8 ht8 hv8 hw8 hB8 hz8 hk8 hS8 => ?_)
      have hZ8 := zBack X ht8 hB8
      subst hw8
      refine lv_istore_n (lv' := [(2, .int (iI r8)), (1, .int (iI l1)), (0, .ref (ad 14 0 0))]) hx hb (D_61 W_prog_15_method_25_code_0 20 rfl rfl) rfl hl (by decide) rfl (fun ls hl => ?_)
      refine lv_iload_n hx hb (D_28 W_prog_15_method_25_code_0 21 rfl rfl) rfl (lv_at hl 0 rfl) ?_
      refine lv_bipush (v := iI 9) hx hb (D_16 W_prog_15_method_25_code_0 22 rfl rfl rfl) (by decide) ?_
      obtain ⟨g9, hf⟩ := gif hf
      refine zeq (tgt := 45) hx hb g9 (by decide) (D_159 W_prog_15_method_25_code_0 24 rfl rfl rfl) (by decide) (fun h10 => ?_) (fun h10 => ?_)
      · replace hf := gpos hf h10
        exact b_M_cut_45 X ih hf hZ8 hS8 (lv_sub hl [1, 2] rfl)
      · replace hf := gneg hf h10
        refine lv_iload_n hx hb (D_28 W_prog_15_method_25_code_0 27 rfl rfl) rfl (lv_at hl 0 rfl) ?_
        refine lv_bipush (v := iI 10) hx hb (D_16 W_prog_15_method_25_code_0 28 rfl rfl rfl) (by decide) ?_
        refine zeq (tgt := 45) hx hb g9 (by decide) (D_159 W_prog_15_method_25_code_0 30 rfl rfl rfl) (by decide) (fun h11 => ?_) (fun h11 => ?_)
        · replace hf := gpos hf h11
          exact b_M_cut_45 X ih hf hZ8 hS8 (lv_sub hl [1, 2] rfl)
        · replace hf := gneg hf h11
          refine lv_iload_n hx hb (D_28 W_prog_15_method_25_code_32 1 rfl rfl) rfl (lv_at hl 0 rfl) ?_
          refine lv_bipush (v := iI 13) hx hb (D_16 W_prog_15_method_25_code_32 2 rfl rfl rfl) (by decide) ?_
          refine zeq (tgt := 45) hx hb g9 (by decide) (D_159 W_prog_15_method_25_code_32 4 rfl rfl rfl) (by decide) (fun h12 => ?_) (fun h12 => ?_)
          · replace hf := gpos hf h12
            exact b_M_cut_45 X ih hf hZ8 hS8 (lv_sub hl [1, 2] rfl)
          · replace hf := gneg hf h12
            refine lv_iload_n hx hb (D_28 W_prog_15_method_25_code_32 7 rfl rfl) rfl (lv_at hl 0 rfl) ?_
            refine lv_bipush (v := iI 32) hx hb (D_16 W_prog_15_method_25_code_32 8 rfl rfl rfl) (by decide) ?_
            refine zne (tgt := 51) hx hb g9 (by decide) (D_160 W_prog_15_method_25_code_32 10 rfl rfl rfl) (by decide) (fun h13 => ?_) (fun h13 => ?_)
            · replace hf := gneg hf h13
              refine lv_aload_n hx hb (D_42 W_prog_15_method_25_code_32 19 rfl rfl) rfl (lv_at hl 2 rfl) ?_
              refine zget (ci := 14) (C := RX14) (T := TX14) (v := .ref (ad 14 0 (8 + 1))) (k := 8) hx hb hts inW_14 hown hK hZ8 (by decide) (by decide) rfl (by decide) k_11_6 rfl (D_180 W_prog_15_method_25_code_32 20 rfl rfl rfl) ?_
              refine lv_aload_n hx hb (D_42 W_prog_15_method_25_code_32 23 rfl rfl) rfl (lv_at hl 2 rfl) ?_
              refine zget (ci := 14) (C := RX14) (T := TX14) (v := .int (iI (F8 14 0 12))) (k := 12) hx hb hts inW_14 hown hK hZ8 (by decide) (by decide) rfl (by decide) k_11_10 rfl (D_180 W_prog_15_method_25_code_32 24 rfl rfl rfl) ?_
              refine lv_iload_n hx hb (D_27 W_prog_15_method_25_code_32 27 rfl rfl) rfl (lv_at hl 1 rfl) ?_
              obtain ⟨g14, hf⟩ := gif hf
              refine zast (ci := 14) (k := 8) hx hb hK rfl hZ8 hS8 (by decide) (by decide) rfl (Nat.le_of_ble_eq_true rfl) g14.1 g14.2 (D_79 W_prog_15_method_25_code_32 28 rfl rfl) (fun H15 locs15 hZ15 hS15 => ?_)
              refine lv_aload_n hx hb (D_42 W_prog_15_method_25_code_32 29 rfl rfl) rfl (lv_at hl 2 rfl) ?_
              refine zget (ci := 14) (C := RX14) (T := TX14) (v := .ref (ad 14 0 (11 + 1))) (k := 11) hx hb hts inW_14 hown hK hZ15 (by decide) (by decide) rfl (by decide) k_11_9 rfl (D_180 W_prog_15_method_25_code_32 30 rfl rfl rfl) ?_
              refine lv_aload_n hx hb (D_42 W_prog_15_method_25_code_64 1 rfl rfl) rfl (lv_at hl 2 rfl) ?_
              refine zget (ci := 14) (C := RX14) (T := TX14) (v := .int (iI (F8 14 0 12))) (k := 12) hx hb hts inW_14 hown hK hZ15 (by decide) (by decide) rfl (by decide) k_11_10 rfl (D_180 W_prog_15_method_25_code_64 2 rfl rfl rfl) ?_
              refine lv_lconst (v := lI 0) hx hb (D_9 W_prog_15_method_25_code_64 5 rfl rfl) (by decide) ?_
              refine zlast (ci := 14) (k := 11) hx hb hK rfl hZ15 hS15 (by decide) (by decide) rfl (Nat.le_of_ble_eq_true rfl) g14.1 g14.2 (D_80 W_prog_15_method_25_code_64 6 rfl rfl) (fun H16 locs16 hZ16 hS16 => ?_)
              refine lv_iload_n hx hb (D_28 W_prog_15_method_25_code_64 7 rfl rfl) rfl (lv_at hl 0 rfl) ?_
              obtain ⟨r17, F17, B17, hc17, hf⟩ := gbind hf
              refine va_calli (va_runS (As := [.int (iI r8)]) (rest := []) ⟨hx, hb, hml, hown, hts⟩ (c_M_isRun (l := l) hc17) (va_cwS 1 hts (gdS k_14_87 k_14_88 k_1_9 k_14_89) rfl rfl rfl (by decide +kernel) ⟨Nat.le_of_ble_eq_true rfl, Nat.le_of_ble_eq_true rfl⟩) (zPS X hZ16 hS16 [.int (iI r8)]) rfl rfl hl.1 rfl (lv_room (Nat.le_of_ble_eq_true rfl)) (D_184 W_prog_15_method_25_code_64 8 rfl rfl rfl) ⟨Nat.le_of_ble_eq_true rfl, Nat.le_of_ble_eq_true rfl⟩) hS16 (fun q _ h => zAin X hS16 q h) (zAin X hS16) (fun p17 u17 t17 H17 locs17 ht17 hv17 hw17 hB17 hz17 hk17 hS17 => ?_)
              have hZ17 := zBack X ht17 hB17
              subst hw17
              obtain ⟨g18, hf⟩ := gif hf
              refine z0eq (tgt := 87) hx hb g18 (D_153 W_prog_15_method_25_code_64 11 rfl rfl rfl) (by decide) (fun h19 => ?_) (fun h19 => ?_)
              · replace hf := gpos hf h19
                refine lv_aload_n hx hb (D_42 W_prog_15_method_25_code_64 23 rfl rfl) rfl (lv_at hl 2 rfl) ?_
                refine zget (ci := 14) (C := RX14) (T := TX14) (v := .ref (ad 14 0 (7 + 1))) (k := 7) hx hb hts inW_14 hown hK hZ17 (by decide) (by decide) rfl (by decide) k_11_5 rfl (D_180 W_prog_15_method_25_code_64 24 rfl rfl rfl) ?_
                refine lv_aload_n hx hb (D_42 W_prog_15_method_25_code_64 27 rfl rfl) rfl (lv_at hl 2 rfl) ?_
                refine zget (ci := 14) (C := RX14) (T := TX14) (v := .int (iI (F17 14 0 12))) (k := 12) hx hb hts inW_14 hown hK hZ17 (by decide) (by decide) rfl (by decide) k_11_10 rfl (D_180 W_prog_15_method_25_code_64 28 rfl rfl rfl) ?_
                refine gldcwS hx hb hown (hX.2.2.2.2.1 35 _ rfl).1 (D_19 W_prog_15_method_25_code_64 31 rfl rfl rfl) ?_
                refine lv_iload_n hx hb (D_28 W_prog_15_method_25_code_96 2 rfl rfl) rfl (lv_at hl 0 rfl) ?_
                obtain ⟨r20, F20, B20, hc20, hf⟩ := gbind hf
                refine va_calli (va_runS (As := [.ref (aS 35), .int (iI r8)]) (rest := [.int (iI (F17 14 0 12)), .ref (ad 14 0 (7 + 1))]) ⟨hx, hb, hml, hown, hts⟩ (c_M_isOneOf (l := l) hc20) (va_cwS 2 hts (gdS k_14_105 k_14_106 k_1_9 k_14_107) rfl rfl rfl (by decide +kernel) ⟨Nat.le_of_ble_eq_true rfl, Nat.le_of_ble_eq_true rfl⟩) (zPS X hZ17 hS17 [.ref (aS 35), .int (iI r8)]) rfl rfl hl.1 rfl (lv_room (Nat.le_of_ble_eq_true rfl)) (D_184 W_prog_15_method_25_code_96 3 rfl rfl rfl) ⟨Nat.le_of_ble_eq_true rfl, Nat.le_of_ble_eq_true rfl⟩) hS17 (fun q _ h => zAin X hS17 q h) (zAin X hS17) (fun p20 u20 t20 H20 locs20 ht20 hv20 hw20 hB20 hz20 hk20 hS20 => ?_)
                have hZ20 := zBack X ht20 hB20
                subst hw20
                obtain ⟨g21, hf⟩ := gif hf
                refine z0eq (tgt := 109) hx hb g21 (D_153 W_prog_15_method_25_code_96 6 rfl rfl rfl) (by decide) (fun h22 => ?_) (fun h22 => ?_)
                · replace hf := gpos hf h22
                  refine lv_iconst (v := iI 1) hx hb (D_4 W_prog_15_method_25_code_96 13 rfl rfl) rfl ?_
                  exact b_M_cut_110 X ih hf hZ20 hS20 (lv_sub hl [0, 1, 2] rfl)
                · replace hf := gneg hf h22
                  refine lv_iconst (v := iI 5) hx hb (D_8 W_prog_15_method_25_code_96 9 rfl rfl) rfl ?_
                  refine lv_goto (tgt := 110) hx hb (D_167 W_prog_15_method_25_code_96 10 rfl rfl rfl) (by decide) ?_
                  exact b_M_cut_110 X ih hf hZ20 hS20 (lv_sub hl [0, 1, 2] rfl)
              · replace hf := gneg hf h19
                refine lv_aload_n hx hb (D_42 W_prog_15_method_25_code_64 14 rfl rfl) rfl (lv_at hl 2 rfl) ?_
                refine lv_iload_n hx hb (D_27 W_prog_15_method_25_code_64 15 rfl rfl) rfl (lv_at hl 1 rfl) ?_
                obtain ⟨r23, F23, B23, hc23, hf⟩ := gbind hf
                refine va_calli (va_runV (As := [.int (iI l1)]) (rest := []) ⟨hx, hb, hml, hown, hts⟩ (c_M_cutRun (l := l) hc23) (cwV 1 hts (gdV k_14_96 k_14_98 ks_197 k_1_9 k_14_99) rfl rfl rfl (by decide +kernel) ⟨Nat.le_of_ble_eq_true rfl, Nat.le_of_ble_eq_true rfl⟩) (zPV X hZ17 hS17 (ci := 14) (by decide) (by decide) (r := (RX14, TX14, 107)) rfl [.int (iI l1)]) rfl rfl hl.1 rfl (lv_room (Nat.le_of_ble_eq_true rfl)) (D_182 W_prog_15_method_25_code_64 16 rfl rfl rfl) ⟨Nat.le_of_ble_eq_true rfl, Nat.le_of_ble_eq_true rfl⟩) hS17 (fun q _ h => zAin X hS17 q h) (zAin X hS17) (fun p23 u23 t23 H23 locs23 ht23 hv23 hw23 hB23 hz23 hk23 hS23 => ?_)
                have hZ23 := zBack X ht23 hB23
                subst hw23
                refine lv_istore_n (lv' := [(1, .int (iI r23)), (2, .int (iI r8)), (0, .ref (ad 14 0 0))]) hx hb (D_60 W_prog_15_method_25_code_64 19 rfl rfl) rfl hl (by decide) rfl (fun ls hl => ?_)
                refine lv_goto (tgt := 124) hx hb (D_167 W_prog_15_method_25_code_64 20 rfl rfl rfl) (by decide) ?_
                exact b_M_cut_124 X ih hf hZ23 hS23 (lv_sub hl [0, 2] rfl)
            · replace hf := gpos hf h13
              exact b_M_cut_45 X ih hf hZ8 hS8 (lv_sub hl [1, 2] rfl)

def f_M_cut (K : Nat)  (F : zF) (B : zB) : zO := f_M_cut_7 K K 0 (zup3 F 14 0 12 0) B
set_option maxHeartbeats 4000000 in
set_option maxRecDepth 100000 in
theorem c_M_cut {l : Launch} {D : va_G} {ca : Nat → ClassId} {ad : Nat → Int → Nat → Nat} {L : List Nat} {aS vS : Nat → Nat} {sz K : Nat}   {F F9 : zF} {B B9 : zB} {r : Int} (hf : f_M_cut K  F B = some (r, F9, B9)) : Met l ({ cls := "StaveHouseModel", name := "cut", desc := "()V" } : Jvm.MethodName) (Cond.code ({ cls := "StaveHouseModel", name := "cut", desc := "()V" } : Jvm.MethodName) prog_15_method_25_code 3 (Option.none : Option Jvm.ClassFile.FieldType) :: wAll) ({ frames := 5, cells := 0, slots := 0, locals := 108 } : Room) (va_Pc [.ref (ad 14 0 0)] (zPre D ca ad lnM nM L aS vS F B sz)) (Q_M_cut D ca ad L r F9 B9 (zA L sz)) 0 0 (zA L sz) := by
  refine zMet (Qc := Q_M_cut D ca ad L r F9 B9) (lv := [(0, .ref (ad 14 0 0))]) (by decide) (Nat.le_of_ble_eq_true rfl) rfl (fun A p e s m below meth c ls X hZ hS hl => ?_)
  obtain ⟨hx, hb, hr, hml, hown, hts, hlk, hK, hA, hL, hX⟩ := id X
  replace hf : (f_M_cut_7 K K 0 (zup3 F 14 0 12 0) B) = some (r, F9, B9) := hf
  refine lv_aload_n hx hb (D_42 W_prog_15_method_25_code_0 0 rfl rfl) rfl (lv_at hl 0 rfl) ?_
  refine lv_iconst (v := iI 0) hx hb (D_3 W_prog_15_method_25_code_0 1 rfl rfl) rfl ?_
  refine zput (ci := 14) (C := RX14) (T := TX14) (k := 12) (v := 0) (w := .int (iI 0)) hx hb hts inW_14 tyX14 tyX14_ok nmX14 hown hK hZ hS (by decide) (by decide) rfl (by decide) k_11_10 rfl (fun G h => congrArg (fun q => Value.int (iI q)) h) rfl rfl (zno (by decide)) (D_181 W_prog_15_method_25_code_0 2 rfl rfl rfl) (fun H1 locs1 hZ1 hS1 => ?_)
  refine lv_iconst (v := iI 0) hx hb (D_3 W_prog_15_method_25_code_0 5 rfl rfl) rfl ?_
  refine lv_istore_n (lv' := [(1, .int (iI 0)), (0, .ref (ad 14 0 0))]) hx hb (D_60 W_prog_15_method_25_code_0 6 rfl rfl) rfl hl (by decide) rfl (fun ls hl => ?_)
  exact b_M_cut_7 X hf hZ1 hS1 (lv_sub hl [0, 1] rfl)

abbrev Q_M_headKey (D : va_G) (ca : Nat → ClassId) (ad : Nat → Int → Nat → Nat) (L : List Nat) (r : Int) (F : zF) (B : zB) (A : Nat → Prop) : Array Value → State → Outcome → State → Prop := va_Qv (S := Unit) (fun _ => True) (fun _ => zPo D ca ad lnM nM L F B A) A
def f_M_headKey_140 (K : Nat)  (F : zF) (B : zB) : zO := some (0, F, B)
set_option maxHeartbeats 4000000 in
set_option maxRecDepth 100000 in
theorem b_M_headKey_140 {D : va_G} {ca : Nat → ClassId} {ad : Nat → Int → Nat → Nat} {L : List Nat} {aS vS : Nat → Nat} {A : Nat → Prop} {p : Program} {l : Launch} {e : Env} {s : State} {m : MethodId} {args : Array Value} {below : List Frame} {meth : Method} {c : Code} {K : Nat} {r : Int} {F9 : zF} {B9 : zB} (X : zX D ca L aS vS A p s m args meth c prog_15_method_42_code 3 (Option.none : Option Jvm.ClassFile.FieldType) "StaveHouseModel")  {F : zF} {B : zB} {H : Heap} {locs : List Loc} {ls : Array Slot} (hf : f_M_headKey_140 K  F B = some (r, F9, B9)) (hZ : zH D ca ad lnM nM L F B A H) (hS : va_S A s.heap H locs) (hl : lv_has ls 3 []) : W p l e ({ frames := 4, cells := 0, slots := 0, locals := 87 } : Room) s m args below meth c H locs 0 0 (MQ below (Q_M_headKey D ca ad L r F9 B9 A) args s 0 0 A) (F0 m 140 ls []) := by
  obtain ⟨hx, hb, hr, hml, hown, hts, hlk, hK, hA, hL, hX⟩ := id X
  replace hf : (some (0, F, B)) = some (r, F9, B9) := hf
  cases hf
  exact W.vret hx hb hr (fun t ht hW => ⟨⟨(), rfl, trivial, by rw [ht]; exact hZ, va_K.moved hW.alike hK⟩, hS.F ht⟩) hS.2.2 (D_177 W_prog_15_method_42_code_128 12 rfl rfl) hlk

def f_M_headKey_123 (K : Nat)  (F : zF) (B : zB) : zO := f_M_headKey_140 K (zup3 F 14 0 16 ((F 14 0 16) + 1)) B
set_option maxHeartbeats 4000000 in
set_option maxRecDepth 100000 in
theorem b_M_headKey_123 {D : va_G} {ca : Nat → ClassId} {ad : Nat → Int → Nat → Nat} {L : List Nat} {aS vS : Nat → Nat} {A : Nat → Prop} {p : Program} {l : Launch} {e : Env} {s : State} {m : MethodId} {args : Array Value} {below : List Frame} {meth : Method} {c : Code} {K : Nat} {r : Int} {F9 : zF} {B9 : zB} (X : zX D ca L aS vS A p s m args meth c prog_15_method_42_code 3 (Option.none : Option Jvm.ClassFile.FieldType) "StaveHouseModel")  {F : zF} {B : zB} {H : Heap} {locs : List Loc} {ls : Array Slot} (hf : f_M_headKey_123 K  F B = some (r, F9, B9)) (hZ : zH D ca ad lnM nM L F B A H) (hS : va_S A s.heap H locs) (hl : lv_has ls 3 [(0, .ref (ad 14 0 0))]) : W p l e ({ frames := 4, cells := 0, slots := 0, locals := 87 } : Room) s m args below meth c H locs 0 0 (MQ below (Q_M_headKey D ca ad L r F9 B9 A) args s 0 0 A) (F0 m 123 ls []) := by
  obtain ⟨hx, hb, hr, hml, hown, hts, hlk, hK, hA, hL, hX⟩ := id X
  replace hf : (f_M_headKey_140 K (zup3 F 14 0 16 ((F 14 0 16) + 1)) B) = some (r, F9, B9) := hf
  refine lv_aload_n hx hb (D_42 W_prog_15_method_42_code_96 27 rfl rfl) rfl (lv_at hl 0 rfl) ?_
  refine lv_dup hx hb (D_89 W_prog_15_method_42_code_96 28 rfl rfl) rfl ?_
  refine zget (ci := 14) (C := RX14) (T := TX14) (v := .int (iI (F 14 0 16))) (k := 16) hx hb hts inW_14 hown hK hZ (by decide) (by decide) rfl (by decide) k_11_14 rfl (D_180 W_prog_15_method_42_code_96 29 rfl rfl rfl) ?_
  refine lv_iconst (v := iI 1) hx hb (D_4 W_prog_15_method_42_code_128 0 rfl rfl) rfl ?_
  refine zadd hx hb (D_96 W_prog_15_method_42_code_128 1 rfl rfl) ?_
  refine zput (ci := 14) (C := RX14) (T := TX14) (k := 16) (v := ((F 14 0 16) + 1)) (w := .int (iI ((F 14 0 16) + 1))) hx hb hts inW_14 tyX14 tyX14_ok nmX14 hown hK hZ hS (by decide) (by decide) rfl (by decide) k_11_14 rfl (fun G h => congrArg (fun q => Value.int (iI q)) h) rfl rfl (zno (by decide)) (D_181 W_prog_15_method_42_code_128 2 rfl rfl rfl) (fun H33 locs33 hZ33 hS33 => ?_)
  refine lv_goto (tgt := 140) hx hb (D_167 W_prog_15_method_42_code_128 5 rfl rfl rfl) (by decide) ?_
  exact b_M_headKey_140 X hf hZ33 hS33 (lv_sub hl [] rfl)

def f_M_headKey_78 (K : Nat) (s0 : Int) (s1 : Int) (F : zF) (B : zB) : zO := if 0 ≤ s0 ∧ s0 < 3 then zbind (f_M_good K (zup3 F 13 s0 2 s1) B) (fun r18 F18 B18 => if r32 r18 then (if r18 = 0 then some (0, F18, B18) else if 0 ≤ (F18 14 0 6) ∧ (F18 14 0 6) < 3 then zbind (f_M_isWord K 469920280434 F18 B18) (fun r22 F22 B22 => if (r22 = 0 ∨ r22 = 1) then zbind (f_M_isWord K 469785800562 (zup3 F22 13 (F18 14 0 6) 3 r22) B22) (fun r25 F25 B25 => if r32 r25 then (if r25 = 0 then zbind (f_M_isWord K 469920280434 F25 B25) (fun r28 F28 B28 => if r32 r28 then (if r28 = 0 then zbind (f_M_wrong K F28 B28) (fun r31 F31 B31 => f_M_headKey_140 K F31 B31) else f_M_headKey_123 K F28 B28) else none) else f_M_headKey_123 K F25 B25) else none) else none) else none) else none) else none
set_option maxHeartbeats 4000000 in
set_option maxRecDepth 100000 in
theorem b_M_headKey_78 {D : va_G} {ca : Nat → ClassId} {ad : Nat → Int → Nat → Nat} {L : List Nat} {aS vS : Nat → Nat} {A : Nat → Prop} {p : Program} {l : Launch} {e : Env} {s : State} {m : MethodId} {args : Array Value} {below : List Frame} {meth : Method} {c : Code} {K : Nat} {r : Int} {F9 : zF} {B9 : zB} (X : zX D ca L aS vS A p s m args meth c prog_15_method_42_code 3 (Option.none : Option Jvm.ClassFile.FieldType) "StaveHouseModel") {s0 : Int} {s1 : Int} {F : zF} {B : zB} {H : Heap} {locs : List Loc} {ls : Array Slot} (hf : f_M_headKey_78 K s0 s1 F B = some (r, F9, B9)) (hZ : zH D ca ad lnM nM L F B A H) (hS : va_S A s.heap H locs) (hl : lv_has ls 3 [(0, .ref (ad 14 0 0))]) : W p l e ({ frames := 4, cells := 0, slots := 0, locals := 87 } : Room) s m args below meth c H locs 0 0 (MQ below (Q_M_headKey D ca ad L r F9 B9 A) args s 0 0 A) (F0 m 78 ls [.int (iI s1), va_rf (zrf ad 13 s0)]) := by
  obtain ⟨hx, hb, hr, hml, hown, hts, hlk, hK, hA, hL, hX⟩ := id X
  replace hf : (if 0 ≤ s0 ∧ s0 < 3 then zbind (f_M_good K (zup3 F 13 s0 2 s1) B) (fun r18 F18 B18 => if r32 r18 then (if r18 = 0 then some (0, F18, B18) else if 0 ≤ (F18 14 0 6) ∧ (F18 14 0 6) < 3 then zbind (f_M_isWord K 469920280434 F18 B18) (fun r22 F22 B22 => if (r22 = 0 ∨ r22 = 1) then zbind (f_M_isWord K 469785800562 (zup3 F22 13 (F18 14 0 6) 3 r22) B22) (fun r25 F25 B25 => if r32 r25 then (if r25 = 0 then zbind (f_M_isWord K 469920280434 F25 B25) (fun r28 F28 B28 => if r32 r28 then (if r28 = 0 then zbind (f_M_wrong K F28 B28) (fun r31 F31 B31 => f_M_headKey_140 K F31 B31) else f_M_headKey_123 K F28 B28) else none) else f_M_headKey_123 K F25 B25) else none) else none) else none) else none) else none) = some (r, F9, B9) := hf
  obtain ⟨g16, hf⟩ := gif hf
  refine W.eq (g2 := F0 m 78 ls [.int (iI s1), .ref (ad 13 s0 0)]) (by rw [zrf_pos (ad := ad) (t := 13) g16.1]; try rfl) ?_
  refine zput (ci := 13) (C := RX13) (T := TX13) (k := 2) (v := s1) (w := .int (iI s1)) hx hb hts inW_13 tyX13 tyX13_ok nmX13 hown hK hZ hS g16.1 g16.2 rfl (by decide) k_9_127 rfl (fun G h => congrArg (fun q => Value.int (iI q)) h) rfl rfl (zno (by decide)) (D_181 W_prog_15_method_42_code_64 14 rfl rfl rfl) (fun H17 locs17 hZ17 hS17 => ?_)
  refine lv_aload_n hx hb (D_42 W_prog_15_method_42_code_64 17 rfl rfl) rfl (lv_at hl 0 rfl) ?_
  obtain ⟨r18, F18, B18, hc18, hf⟩ := gbind hf
  refine va_calli (va_runV (As := []) (rest := []) ⟨hx, hb, hml, hown, hts⟩ (c_M_good (l := l) hc18) (cwV 0 hts (gdV k_13_15 k_13_17 ks_152 k_1_9 k_13_18) rfl rfl rfl (by decide +kernel) ⟨Nat.le_of_ble_eq_true rfl, Nat.le_of_ble_eq_true rfl⟩) (zPV X hZ17 hS17 (ci := 14) (by decide) (by decide) (r := (RX14, TX14, 107)) rfl []) rfl rfl hl.1 rfl (lv_room (Nat.le_of_ble_eq_true rfl)) (D_182 W_prog_15_method_42_code_64 18 rfl rfl rfl) ⟨Nat.le_of_ble_eq_true rfl, Nat.le_of_ble_eq_true rfl⟩) hS17 (fun q _ h => zAin X hS17 q h) (zAin X hS17) (fun p18 u18 t18 H18 locs18 ht18 hv18 hw18 hB18 hz18 hk18 hS18 => ?_)
  have hZ18 := zBack X ht18 hB18
  subst hw18
  obtain ⟨g19, hf⟩ := gif hf
  refine z0ne (tgt := 89) hx hb g19 (D_154 W_prog_15_method_42_code_64 21 rfl rfl rfl) (by decide) (fun h20 => ?_) (fun h20 => ?_)
  · replace hf := gneg hf h20
    refine lv_aload_n hx hb (D_42 W_prog_15_method_42_code_64 25 rfl rfl) rfl (lv_at hl 0 rfl) ?_
    refine zget (ci := 14) (C := RX14) (T := TX14) (v := va_rf (zrf ad 13 (F18 14 0 6))) (k := 6) hx hb hts inW_14 hown hK hZ18 (by decide) (by decide) rfl (by decide) k_11_4 rfl (D_180 W_prog_15_method_42_code_64 26 rfl rfl rfl) ?_
    refine lv_aload_n hx hb (D_42 W_prog_15_method_42_code_64 29 rfl rfl) rfl (lv_at hl 0 rfl) ?_
    refine va_gets hx hb (hX.2.2.2.1 _ (List.mem_of_getElem? (i := 3) rfl) :) hS18 hown (hts _ k_10_211) (fun _ h => h) (D_178 W_prog_15_method_42_code_64 30 rfl rfl rfl) ?_
    refine W.eq (g2 := F0 m 97 ls [.long (lI 469920280434), .ref (ad 14 0 0), va_rf (zrf ad 13 (F18 14 0 6))]) rfl ?_
    obtain ⟨g21, hf⟩ := gif hf
    refine W.eq (g2 := F0 m 97 ls [.long (lI 469920280434), .ref (ad 14 0 0), .ref (ad 13 (F18 14 0 6) 0)]) (by rw [zrf_pos (ad := ad) (t := 13) g21.1]; try rfl) ?_
    obtain ⟨r22, F22, B22, hc22, hf⟩ := gbind hf
    refine va_calli (va_runV (As := [.long (lI 469920280434)]) (rest := [.ref (ad 13 (F18 14 0 6) 0)]) ⟨hx, hb, hml, hown, hts⟩ (c_M_isWord (l := l) hc22) (cwV 1 hts (gdV k_14_112 k_14_114 ks_200 k_1_9 k_14_115) rfl rfl rfl (by decide +kernel) ⟨Nat.le_of_ble_eq_true rfl, Nat.le_of_ble_eq_true rfl⟩) (zPV X hZ18 hS18 (ci := 14) (by decide) (by decide) (r := (RX14, TX14, 107)) rfl [.long (lI 469920280434)]) rfl rfl hl.1 rfl (lv_room (Nat.le_of_ble_eq_true rfl)) (D_182 W_prog_15_method_42_code_96 1 rfl rfl rfl) ⟨Nat.le_of_ble_eq_true rfl, Nat.le_of_ble_eq_true rfl⟩) hS18 (fun q _ h => zAin X hS18 q h) (zAin X hS18) (fun p22 u22 t22 H22 locs22 ht22 hv22 hw22 hB22 hz22 hk22 hS22 => ?_)
    have hZ22 := zBack X ht22 hB22
    subst hw22
    obtain ⟨g23, hf⟩ := gif hf
    refine zput (ci := 13) (C := RX13) (T := TX13) (k := 3) (v := r22) (w := .int (iI r22)) hx hb hts inW_13 tyX13 tyX13_ok nmX13 hown hK hZ22 hS22 g21.1 g21.2 rfl (by decide) k_9_128 rfl (fun G h => congrArg (fun q => Value.int (iI q)) h) (zbool g23) (zboolF g23) (zno (by decide)) (D_181 W_prog_15_method_42_code_96 4 rfl rfl rfl) (fun H24 locs24 hZ24 hS24 => ?_)
    refine lv_aload_n hx hb (D_42 W_prog_15_method_42_code_96 7 rfl rfl) rfl (lv_at hl 0 rfl) ?_
    refine va_gets hx hb (hX.2.2.2.1 _ (List.mem_of_getElem? (i := 2) rfl) :) hS24 hown (hts _ k_10_209) (fun _ h => h) (D_178 W_prog_15_method_42_code_96 8 rfl rfl rfl) ?_
    refine W.eq (g2 := F0 m 107 ls [.long (lI 469785800562), .ref (ad 14 0 0)]) rfl ?_
    obtain ⟨r25, F25, B25, hc25, hf⟩ := gbind hf
    refine va_calli (va_runV (As := [.long (lI 469785800562)]) (rest := []) ⟨hx, hb, hml, hown, hts⟩ (c_M_isWord (l := l) hc25) (cwV 1 hts (gdV k_14_112 k_14_114 ks_200 k_1_9 k_14_115) rfl rfl rfl (by decide +kernel) ⟨Nat.le_of_ble_eq_true rfl, Nat.le_of_ble_eq_true rfl⟩) (zPV X hZ24 hS24 (ci := 14) (by decide) (by decide) (r := (RX14, TX14, 107)) rfl [.long (lI 469785800562)]) rfl rfl hl.1 rfl (lv_room (Nat.le_of_ble_eq_true rfl)) (D_182 W_prog_15_method_42_code_96 11 rfl rfl rfl) ⟨Nat.le_of_ble_eq_true rfl, Nat.le_of_ble_eq_true rfl⟩) hS24 (fun q _ h => zAin X hS24 q h) (zAin X hS24) (fun p25 u25 t25 H25 locs25 ht25 hv25 hw25 hB25 hz25 hk25 hS25 => ?_)
    have hZ25 := zBack X ht25 hB25
    subst hw25
    obtain ⟨g26, hf⟩ := gif hf
    refine z0ne (tgt := 123) hx hb g26 (D_154 W_prog_15_method_42_code_96 14 rfl rfl rfl) (by decide) (fun h27 => ?_) (fun h27 => ?_)
    · replace hf := gneg hf h27
      exact b_M_headKey_123 X hf hZ25 hS25 (lv_sub hl [0] rfl)
    · replace hf := gpos hf h27
      refine lv_aload_n hx hb (D_42 W_prog_15_method_42_code_96 17 rfl rfl) rfl (lv_at hl 0 rfl) ?_
      refine va_gets hx hb (hX.2.2.2.1 _ (List.mem_of_getElem? (i := 3) rfl) :) hS25 hown (hts _ k_10_211) (fun _ h => h) (D_178 W_prog_15_method_42_code_96 18 rfl rfl rfl) ?_
      refine W.eq (g2 := F0 m 117 ls [.long (lI 469920280434), .ref (ad 14 0 0)]) rfl ?_
      obtain ⟨r28, F28, B28, hc28, hf⟩ := gbind hf
      refine va_calli (va_runV (As := [.long (lI 469920280434)]) (rest := []) ⟨hx, hb, hml, hown, hts⟩ (c_M_isWord (l := l) hc28) (cwV 1 hts (gdV k_14_112 k_14_114 ks_200 k_1_9 k_14_115) rfl rfl rfl (by decide +kernel) ⟨Nat.le_of_ble_eq_true rfl, Nat.le_of_ble_eq_true rfl⟩) (zPV X hZ25 hS25 (ci := 14) (by decide) (by decide) (r := (RX14, TX14, 107)) rfl [.long (lI 469920280434)]) rfl rfl hl.1 rfl (lv_room (Nat.le_of_ble_eq_true rfl)) (D_182 W_prog_15_method_42_code_96 21 rfl rfl rfl) ⟨Nat.le_of_ble_eq_true rfl, Nat.le_of_ble_eq_true rfl⟩) hS25 (fun q _ h => zAin X hS25 q h) (zAin X hS25) (fun p28 u28 t28 H28 locs28 ht28 hv28 hw28 hB28 hz28 hk28 hS28 => ?_)
      have hZ28 := zBack X ht28 hB28
      subst hw28
      obtain ⟨g29, hf⟩ := gif hf
      refine z0eq (tgt := 136) hx hb g29 (D_153 W_prog_15_method_42_code_96 24 rfl rfl rfl) (by decide) (fun h30 => ?_) (fun h30 => ?_)
      · replace hf := gpos hf h30
        refine lv_aload_n hx hb (D_42 W_prog_15_method_42_code_128 8 rfl rfl) rfl (lv_at hl 0 rfl) ?_
        obtain ⟨r31, F31, B31, hc31, hf⟩ := gbind hf
        refine va_callv (va_runV (As := []) (rest := []) ⟨hx, hb, hml, hown, hts⟩ (c_M_wrong (l := l) hc31) (cwV 0 hts (gdV k_14_124 k_14_126 ks_203 k_1_9 k_14_127) rfl rfl rfl (by decide +kernel) ⟨Nat.le_of_ble_eq_true rfl, Nat.le_of_ble_eq_true rfl⟩) (zPV X hZ28 hS28 (ci := 14) (by decide) (by decide) (r := (RX14, TX14, 107)) rfl []) rfl rfl hl.1 rfl (lv_room (Nat.le_of_ble_eq_true rfl)) (D_182 W_prog_15_method_42_code_128 9 rfl rfl rfl) ⟨Nat.le_of_ble_eq_true rfl, Nat.le_of_ble_eq_true rfl⟩) hS28 (fun q _ h => zAin X hS28 q h) (zAin X hS28) (fun u31 t31 H31 locs31 ht31 hv31 hw31 hB31 hz31 hk31 hS31 => ?_)
        have hZ31 := zBack X ht31 hB31
        exact b_M_headKey_140 X hf hZ31 hS31 (lv_sub hl [] rfl)
      · replace hf := gneg hf h30
        exact b_M_headKey_123 X hf hZ28 hS28 (lv_sub hl [0] rfl)
  · replace hf := gpos hf h20
    cases hf
    exact W.vret hx hb hr (fun t ht hW => ⟨⟨(), rfl, trivial, by rw [ht]; exact hZ18, va_K.moved hW.alike hK⟩, hS18.F ht⟩) hS18.2.2 (D_177 W_prog_15_method_42_code_64 24 rfl rfl) hlk

def f_M_headKey_55 (K : Nat) (l1 : Int) (F : zF) (B : zB) : zO := zbind (f_M_number K 0 7 0 F B) (fun r13 F13 B13 => if r32 l1 then (if l1 = 0 then f_M_headKey_78 K (F13 14 0 6) r13 F13 B13 else f_M_headKey_78 K (F13 14 0 6) (-r13) F13 B13) else none)
set_option maxHeartbeats 4000000 in
set_option maxRecDepth 100000 in
theorem b_M_headKey_55 {D : va_G} {ca : Nat → ClassId} {ad : Nat → Int → Nat → Nat} {L : List Nat} {aS vS : Nat → Nat} {A : Nat → Prop} {p : Program} {l : Launch} {e : Env} {s : State} {m : MethodId} {args : Array Value} {below : List Frame} {meth : Method} {c : Code} {K : Nat} {r : Int} {F9 : zF} {B9 : zB} (X : zX D ca L aS vS A p s m args meth c prog_15_method_42_code 3 (Option.none : Option Jvm.ClassFile.FieldType) "StaveHouseModel") {l1 : Int} {F : zF} {B : zB} {H : Heap} {locs : List Loc} {ls : Array Slot} (hf : f_M_headKey_55 K l1 F B = some (r, F9, B9)) (hZ : zH D ca ad lnM nM L F B A H) (hS : va_S A s.heap H locs) (hl : lv_has ls 3 [(1, .int (iI l1)), (0, .ref (ad 14 0 0))]) : W p l e ({ frames := 4, cells := 0, slots := 0, locals := 87 } : Room) s m args below meth c H locs 0 0 (MQ below (Q_M_headKey D ca ad L r F9 B9 A) args s 0 0 A) (F0 m 55 ls []) := by
  obtain ⟨hx, hb, hr, hml, hown, hts, hlk, hK, hA, hL, hX⟩ := id X
  replace hf : (zbind (f_M_number K 0 7 0 F B) (fun r13 F13 B13 => if r32 l1 then (if l1 = 0 then f_M_headKey_78 K (F13 14 0 6) r13 F13 B13 else f_M_headKey_78 K (F13 14 0 6) (-r13) F13 B13) else none)) = some (r, F9, B9) := hf
  refine lv_aload_n hx hb (D_42 W_prog_15_method_42_code_32 23 rfl rfl) rfl (lv_at hl 1 rfl) ?_
  refine lv_iconst (v := iI 0) hx hb (D_3 W_prog_15_method_42_code_32 24 rfl rfl) rfl ?_
  refine lv_bipush (v := iI 7) hx hb (D_16 W_prog_15_method_42_code_32 25 rfl rfl rfl) (by decide) ?_
  refine lv_iconst (v := iI 0) hx hb (D_3 W_prog_15_method_42_code_32 27 rfl rfl) rfl ?_
  obtain ⟨r13, F13, B13, hc13, hf⟩ := gbind hf
  refine va_calli (va_runV (As := [.int (iI 0), .int (iI 7), .int (iI 0)]) (rest := []) ⟨hx, hb, hml, hown, hts⟩ (c_M_number (l := l) hc13) (cwV 3 hts (gdV k_14_140 k_14_142 ks_207 k_1_9 k_14_143) rfl rfl rfl (by decide +kernel) ⟨Nat.le_of_ble_eq_true rfl, Nat.le_of_ble_eq_true rfl⟩) (zPV X hZ hS (ci := 14) (by decide) (by decide) (r := (RX14, TX14, 107)) rfl [.int (iI 0), .int (iI 7), .int (iI 0)]) rfl rfl hl.1 rfl (lv_room (Nat.le_of_ble_eq_true rfl)) (D_182 W_prog_15_method_42_code_32 28 rfl rfl rfl) ⟨Nat.le_of_ble_eq_true rfl, Nat.le_of_ble_eq_true rfl⟩) hS (fun q _ h => zAin X hS q h) (zAin X hS) (fun p13 u13 t13 H13 locs13 ht13 hv13 hw13 hB13 hz13 hk13 hS13 => ?_)
  have hZ13 := zBack X ht13 hB13
  subst hw13
  refine lv_istore_n (lv' := [(2, .int (iI r13)), (1, .int (iI l1)), (0, .ref (ad 14 0 0))]) hx hb (D_61 W_prog_15_method_42_code_32 31 rfl rfl) rfl hl (by decide) rfl (fun ls hl => ?_)
  refine lv_aload_n hx hb (D_42 W_prog_15_method_42_code_64 0 rfl rfl) rfl (lv_at hl 2 rfl) ?_
  refine zget (ci := 14) (C := RX14) (T := TX14) (v := va_rf (zrf ad 13 (F13 14 0 6))) (k := 6) hx hb hts inW_14 hown hK hZ13 (by decide) (by decide) rfl (by decide) k_11_4 rfl (D_180 W_prog_15_method_42_code_64 1 rfl rfl rfl) ?_
  refine lv_iload_n hx hb (D_27 W_prog_15_method_42_code_64 4 rfl rfl) rfl (lv_at hl 1 rfl) ?_
  obtain ⟨g14, hf⟩ := gif hf
  refine z0eq (tgt := 77) hx hb g14 (D_153 W_prog_15_method_42_code_64 5 rfl rfl rfl) (by decide) (fun h15 => ?_) (fun h15 => ?_)
  · replace hf := gpos hf h15
    refine lv_iload_n hx hb (D_28 W_prog_15_method_42_code_64 13 rfl rfl) rfl (lv_at hl 0 rfl) ?_
    exact b_M_headKey_78 X hf hZ13 hS13 (lv_sub hl [2] rfl)
  · replace hf := gneg hf h15
    refine lv_iload_n hx hb (D_28 W_prog_15_method_42_code_64 8 rfl rfl) rfl (lv_at hl 0 rfl) ?_
    refine zneg hx hb (D_116 W_prog_15_method_42_code_64 9 rfl rfl) ?_
    refine lv_goto (tgt := 78) hx hb (D_167 W_prog_15_method_42_code_64 10 rfl rfl rfl) (by decide) ?_
    exact b_M_headKey_78 X hf hZ13 hS13 (lv_sub hl [2] rfl)

def f_M_headKey_11 (K : Nat)  (F : zF) (B : zB) : zO := zbind (f_M_good K (zup3 (zup3 F 14 0 22 1) 14 0 16 ((F 14 0 16) + 1)) B) (fun r6 F6 B6 => if r32 r6 then (if r6 = 0 then some (0, F6, B6) else zbind (f_M_isSign K 45 F6 B6) (fun r9 F9 B9 => if r32 r9 then (if r9 = 0 then f_M_headKey_55 K r9 F9 B9 else f_M_headKey_55 K r9 (zup3 F9 14 0 16 ((F9 14 0 16) + 1)) B9) else none)) else none)
set_option maxHeartbeats 4000000 in
set_option maxRecDepth 100000 in
theorem b_M_headKey_11 {D : va_G} {ca : Nat → ClassId} {ad : Nat → Int → Nat → Nat} {L : List Nat} {aS vS : Nat → Nat} {A : Nat → Prop} {p : Program} {l : Launch} {e : Env} {s : State} {m : MethodId} {args : Array Value} {below : List Frame} {meth : Method} {c : Code} {K : Nat} {r : Int} {F9 : zF} {B9 : zB} (X : zX D ca L aS vS A p s m args meth c prog_15_method_42_code 3 (Option.none : Option Jvm.ClassFile.FieldType) "StaveHouseModel")  {F : zF} {B : zB} {H : Heap} {locs : List Loc} {ls : Array Slot} (hf : f_M_headKey_11 K  F B = some (r, F9, B9)) (hZ : zH D ca ad lnM nM L F B A H) (hS : va_S A s.heap H locs) (hl : lv_has ls 3 [(0, .ref (ad 14 0 0))]) : W p l e ({ frames := 4, cells := 0, slots := 0, locals := 87 } : Room) s m args below meth c H locs 0 0 (MQ below (Q_M_headKey D ca ad L r F9 B9 A) args s 0 0 A) (F0 m 11 ls []) := by
  obtain ⟨hx, hb, hr, hml, hown, hts, hlk, hK, hA, hL, hX⟩ := id X
  replace hf : (zbind (f_M_good K (zup3 (zup3 F 14 0 22 1) 14 0 16 ((F 14 0 16) + 1)) B) (fun r6 F6 B6 => if r32 r6 then (if r6 = 0 then some (0, F6, B6) else zbind (f_M_isSign K 45 F6 B6) (fun r9 F9 B9 => if r32 r9 then (if r9 = 0 then f_M_headKey_55 K r9 F9 B9 else f_M_headKey_55 K r9 (zup3 F9 14 0 16 ((F9 14 0 16) + 1)) B9) else none)) else none)) = some (r, F9, B9) := hf
  refine lv_aload_n hx hb (D_42 W_prog_15_method_42_code_0 11 rfl rfl) rfl (lv_at hl 0 rfl) ?_
  refine lv_iconst (v := iI 1) hx hb (D_4 W_prog_15_method_42_code_0 12 rfl rfl) rfl ?_
  refine zput (ci := 14) (C := RX14) (T := TX14) (k := 22) (v := 1) (w := .int (iI 1)) hx hb hts inW_14 tyX14 tyX14_ok nmX14 hown hK hZ hS (by decide) (by decide) rfl (by decide) k_11_20 rfl (fun G h => congrArg (fun q => Value.int (iI q)) h) rfl rfl (zno (by decide)) (D_181 W_prog_15_method_42_code_0 13 rfl rfl rfl) (fun H4 locs4 hZ4 hS4 => ?_)
  refine lv_aload_n hx hb (D_42 W_prog_15_method_42_code_0 16 rfl rfl) rfl (lv_at hl 0 rfl) ?_
  refine lv_dup hx hb (D_89 W_prog_15_method_42_code_0 17 rfl rfl) rfl ?_
  refine zget (ci := 14) (C := RX14) (T := TX14) (v := .int (iI (F 14 0 16))) (k := 16) hx hb hts inW_14 hown hK hZ4 (by decide) (by decide) rfl (by decide) k_11_14 rfl (D_180 W_prog_15_method_42_code_0 18 rfl rfl rfl) ?_
  refine lv_iconst (v := iI 1) hx hb (D_4 W_prog_15_method_42_code_0 21 rfl rfl) rfl ?_
  refine zadd hx hb (D_96 W_prog_15_method_42_code_0 22 rfl rfl) ?_
  refine zput (ci := 14) (C := RX14) (T := TX14) (k := 16) (v := ((F 14 0 16) + 1)) (w := .int (iI ((F 14 0 16) + 1))) hx hb hts inW_14 tyX14 tyX14_ok nmX14 hown hK hZ4 hS4 (by decide) (by decide) rfl (by decide) k_11_14 rfl (fun G h => congrArg (fun q => Value.int (iI q)) h) rfl rfl (zno (by decide)) (D_181 W_prog_15_method_42_code_0 23 rfl rfl rfl) (fun H5 locs5 hZ5 hS5 => ?_)
  refine lv_aload_n hx hb (D_42 W_prog_15_method_42_code_0 26 rfl rfl) rfl (lv_at hl 0 rfl) ?_
  obtain ⟨r6, F6, B6, hc6, hf⟩ := gbind hf
  refine va_calli (va_runV (As := []) (rest := []) ⟨hx, hb, hml, hown, hts⟩ (c_M_good (l := l) hc6) (cwV 0 hts (gdV k_13_15 k_13_17 ks_152 k_1_9 k_13_18) rfl rfl rfl (by decide +kernel) ⟨Nat.le_of_ble_eq_true rfl, Nat.le_of_ble_eq_true rfl⟩) (zPV X hZ5 hS5 (ci := 14) (by decide) (by decide) (r := (RX14, TX14, 107)) rfl []) rfl rfl hl.1 rfl (lv_room (Nat.le_of_ble_eq_true rfl)) (D_182 W_prog_15_method_42_code_0 27 rfl rfl rfl) ⟨Nat.le_of_ble_eq_true rfl, Nat.le_of_ble_eq_true rfl⟩) hS5 (fun q _ h => zAin X hS5 q h) (zAin X hS5) (fun p6 u6 t6 H6 locs6 ht6 hv6 hw6 hB6 hz6 hk6 hS6 => ?_)
  have hZ6 := zBack X ht6 hB6
  subst hw6
  obtain ⟨g7, hf⟩ := gif hf
  refine z0ne (tgt := 34) hx hb g7 (D_154 W_prog_15_method_42_code_0 30 rfl rfl rfl) (by decide) (fun h8 => ?_) (fun h8 => ?_)
  · replace hf := gneg hf h8
    refine lv_aload_n hx hb (D_42 W_prog_15_method_42_code_32 2 rfl rfl) rfl (lv_at hl 0 rfl) ?_
    refine lv_bipush (v := iI 45) hx hb (D_16 W_prog_15_method_42_code_32 3 rfl rfl rfl) (by decide) ?_
    obtain ⟨r9, F9, B9, hc9, hf⟩ := gbind hf
    refine va_calli (va_runV (As := [.int (iI 45)]) (rest := []) ⟨hx, hb, hml, hown, hts⟩ (c_M_isSign (l := l) hc9) (cwV 1 hts (gdV k_14_136 k_14_138 ks_206 k_1_9 k_14_139) rfl rfl rfl (by decide +kernel) ⟨Nat.le_of_ble_eq_true rfl, Nat.le_of_ble_eq_true rfl⟩) (zPV X hZ6 hS6 (ci := 14) (by decide) (by decide) (r := (RX14, TX14, 107)) rfl [.int (iI 45)]) rfl rfl hl.1 rfl (lv_room (Nat.le_of_ble_eq_true rfl)) (D_182 W_prog_15_method_42_code_32 5 rfl rfl rfl) ⟨Nat.le_of_ble_eq_true rfl, Nat.le_of_ble_eq_true rfl⟩) hS6 (fun q _ h => zAin X hS6 q h) (zAin X hS6) (fun p9 u9 t9 H9 locs9 ht9 hv9 hw9 hB9 hz9 hk9 hS9 => ?_)
    have hZ9 := zBack X ht9 hB9
    subst hw9
    refine lv_istore_n (lv' := [(1, .int (iI r9)), (0, .ref (ad 14 0 0))]) hx hb (D_60 W_prog_15_method_42_code_32 8 rfl rfl) rfl hl (by decide) rfl (fun ls hl => ?_)
    refine lv_iload_n hx hb (D_27 W_prog_15_method_42_code_32 9 rfl rfl) rfl (lv_at hl 0 rfl) ?_
    obtain ⟨g10, hf⟩ := gif hf
    refine z0eq (tgt := 55) hx hb g10 (D_153 W_prog_15_method_42_code_32 10 rfl rfl rfl) (by decide) (fun h11 => ?_) (fun h11 => ?_)
    · replace hf := gpos hf h11
      exact b_M_headKey_55 X hf hZ9 hS9 (lv_sub hl [0, 1] rfl)
    · replace hf := gneg hf h11
      refine lv_aload_n hx hb (D_42 W_prog_15_method_42_code_32 13 rfl rfl) rfl (lv_at hl 1 rfl) ?_
      refine lv_dup hx hb (D_89 W_prog_15_method_42_code_32 14 rfl rfl) rfl ?_
      refine zget (ci := 14) (C := RX14) (T := TX14) (v := .int (iI (F9 14 0 16))) (k := 16) hx hb hts inW_14 hown hK hZ9 (by decide) (by decide) rfl (by decide) k_11_14 rfl (D_180 W_prog_15_method_42_code_32 15 rfl rfl rfl) ?_
      refine lv_iconst (v := iI 1) hx hb (D_4 W_prog_15_method_42_code_32 18 rfl rfl) rfl ?_
      refine zadd hx hb (D_96 W_prog_15_method_42_code_32 19 rfl rfl) ?_
      refine zput (ci := 14) (C := RX14) (T := TX14) (k := 16) (v := ((F9 14 0 16) + 1)) (w := .int (iI ((F9 14 0 16) + 1))) hx hb hts inW_14 tyX14 tyX14_ok nmX14 hown hK hZ9 hS9 (by decide) (by decide) rfl (by decide) k_11_14 rfl (fun G h => congrArg (fun q => Value.int (iI q)) h) rfl rfl (zno (by decide)) (D_181 W_prog_15_method_42_code_32 20 rfl rfl rfl) (fun H12 locs12 hZ12 hS12 => ?_)
      exact b_M_headKey_55 X hf hZ12 hS12 (lv_sub hl [0, 1] rfl)
  · replace hf := gpos hf h8
    cases hf
    exact W.vret hx hb hr (fun t ht hW => ⟨⟨(), rfl, trivial, by rw [ht]; exact hZ6, va_K.moved hW.alike hK⟩, hS6.F ht⟩) hS6.2.2 (D_177 W_prog_15_method_42_code_32 1 rfl rfl) hlk

def f_M_headKey (K : Nat)  (F : zF) (B : zB) : zO := if r32 (F 14 0 22) then (if (F 14 0 22) = 0 then f_M_headKey_11 K F B else zbind (f_M_wrong K F B) (fun r3 F3 B3 => f_M_headKey_11 K F3 B3)) else none
set_option maxHeartbeats 4000000 in
set_option maxRecDepth 100000 in
theorem c_M_headKey {l : Launch} {D : va_G} {ca : Nat → ClassId} {ad : Nat → Int → Nat → Nat} {L : List Nat} {aS vS : Nat → Nat} {sz K : Nat}   {F F9 : zF} {B B9 : zB} {r : Int} (hf : f_M_headKey K  F B = some (r, F9, B9)) : Met l ({ cls := "StaveHouseModel", name := "headKey", desc := "()V" } : Jvm.MethodName) (Cond.code ({ cls := "StaveHouseModel", name := "headKey", desc := "()V" } : Jvm.MethodName) prog_15_method_42_code 3 (Option.none : Option Jvm.ClassFile.FieldType) :: wAll) ({ frames := 4, cells := 0, slots := 0, locals := 87 } : Room) (va_Pc [.ref (ad 14 0 0)] (zPre D ca ad lnM nM L aS vS F B sz)) (Q_M_headKey D ca ad L r F9 B9 (zA L sz)) 0 0 (zA L sz) := by
  refine zMet (Qc := Q_M_headKey D ca ad L r F9 B9) (lv := [(0, .ref (ad 14 0 0))]) (by decide) (Nat.le_of_ble_eq_true rfl) rfl (fun A p e s m below meth c ls X hZ hS hl => ?_)
  obtain ⟨hx, hb, hr, hml, hown, hts, hlk, hK, hA, hL, hX⟩ := id X
  replace hf : (if r32 (F 14 0 22) then (if (F 14 0 22) = 0 then f_M_headKey_11 K F B else zbind (f_M_wrong K F B) (fun r3 F3 B3 => f_M_headKey_11 K F3 B3)) else none) = some (r, F9, B9) := hf
  refine lv_aload_n hx hb (D_42 W_prog_15_method_42_code_0 0 rfl rfl) rfl (lv_at hl 0 rfl) ?_
  refine zget (ci := 14) (C := RX14) (T := TX14) (v := .int (iI (F 14 0 22))) (k := 22) hx hb hts inW_14 hown hK hZ (by decide) (by decide) rfl (by decide) k_11_20 rfl (D_180 W_prog_15_method_42_code_0 1 rfl rfl rfl) ?_
  obtain ⟨g1, hf⟩ := gif hf
  refine z0eq (tgt := 11) hx hb g1 (D_153 W_prog_15_method_42_code_0 4 rfl rfl rfl) (by decide) (fun h2 => ?_) (fun h2 => ?_)
  · replace hf := gpos hf h2
    exact b_M_headKey_11 X hf hZ hS (lv_sub hl [0] rfl)
  · replace hf := gneg hf h2
    refine lv_aload_n hx hb (D_42 W_prog_15_method_42_code_0 7 rfl rfl) rfl (lv_at hl 0 rfl) ?_
    obtain ⟨r3, F3, B3, hc3, hf⟩ := gbind hf
    refine va_callv (va_runV (As := []) (rest := []) ⟨hx, hb, hml, hown, hts⟩ (c_M_wrong (l := l) hc3) (cwV 0 hts (gdV k_14_124 k_14_126 ks_203 k_1_9 k_14_127) rfl rfl rfl (by decide +kernel) ⟨Nat.le_of_ble_eq_true rfl, Nat.le_of_ble_eq_true rfl⟩) (zPV X hZ hS (ci := 14) (by decide) (by decide) (r := (RX14, TX14, 107)) rfl []) rfl rfl hl.1 rfl (lv_room (Nat.le_of_ble_eq_true rfl)) (D_182 W_prog_15_method_42_code_0 8 rfl rfl rfl) ⟨Nat.le_of_ble_eq_true rfl, Nat.le_of_ble_eq_true rfl⟩) hS (fun q _ h => zAin X hS q h) (zAin X hS) (fun u3 t3 H3 locs3 ht3 hv3 hw3 hB3 hz3 hk3 hS3 => ?_)
    have hZ3 := zBack X ht3 hB3
    exact b_M_headKey_11 X hf hZ3 hS3 (lv_sub hl [0] rfl)

abbrev Q_M_staves (D : va_G) (ca : Nat → ClassId) (ad : Nat → Int → Nat → Nat) (L : List Nat) (r : Int) (F : zF) (B : zB) (A : Nat → Prop) : Array Value → State → Outcome → State → Prop := va_Qv (S := Unit) (fun _ => True) (fun _ => zPo D ca ad lnM nM L F B A) A
def f_M_staves_24 (rec2 : Int → Int → zF → zB → zO) (K : Nat) : Nat → Int → Int → Int → zF → zB → zO
  | 0, _, _, _, _, _ => none
  | n + 1, l3, l2, l1, F, B => if 0 ≤ l1 ∧ l1 < 3 then if 0 ≤ l2 ∧ l2 < 4 then if r32 l3 then if r32 (B 13 l1 13 l2) then (if (B 13 l1 13 l2) ≤ l3 then zbind (f_M_groups K l1 l2 F B) (fun r12 F12 B12 => rec2 (l2 + 1) l1 F12 B12) else zbind (f_M_ledgers K l1 l2 l3 F B) (fun r13 F13 B13 => if 0 ≤ ((800 * l2) + l3) ∧ ((800 * l2) + l3) < 3200 then f_M_staves_24 rec2 K n (l3 + 1) l2 l1 F13 (zup4 B13 13 l1 38 ((800 * l2) + l3) r13) else none)) else none else none else none else none
set_option maxHeartbeats 4000000 in
set_option maxRecDepth 100000 in
theorem b_M_staves_24 {D : va_G} {ca : Nat → ClassId} {ad : Nat → Int → Nat → Nat} {L : List Nat} {aS vS : Nat → Nat} {A : Nat → Prop} {p : Program} {l : Launch} {e : Env} {s : State} {m : MethodId} {args : Array Value} {below : List Frame} {meth : Method} {c : Code} {K : Nat} {r : Int} {F9 : zF} {B9 : zB} (X : zX D ca L aS vS A p s m args meth c prog_15_method_91_code 4 (Option.none : Option Jvm.ClassFile.FieldType) "StaveHouseModel") {rec2 : Int → Int → zF → zB → zO} (hrec2 : ∀ {l2 : Int} {l1 : Int} {F : zF} {B : zB} {H : Heap} {locs : List Loc} {ls : Array Slot}, rec2 l2 l1 F B = some (r, F9, B9) → zH D ca ad lnM nM L F B A H → va_S A s.heap H locs → lv_has ls 4 [(2, .int (iI l2)), (0, .ref (ad 14 0 0)), (1, .ref (ad 13 l1 0))] → W p l e ({ frames := 4, cells := 0, slots := 0, locals := 102 } : Room) s m args below meth c H locs 0 0 (MQ below (Q_M_staves D ca ad L r F9 B9 A) args s 0 0 A) (F0 m 2 ls [])) : ∀ {n : Nat} {l3 : Int} {l2 : Int} {l1 : Int} {F : zF} {B : zB} {H : Heap} {locs : List Loc} {ls : Array Slot}, f_M_staves_24 rec2 K n l3 l2 l1 F B = some (r, F9, B9) → zH D ca ad lnM nM L F B A H → va_S A s.heap H locs → lv_has ls 4 [(3, .int (iI l3)), (2, .int (iI l2)), (0, .ref (ad 14 0 0)), (1, .ref (ad 13 l1 0))] → W p l e ({ frames := 4, cells := 0, slots := 0, locals := 102 } : Room) s m args below meth c H locs 0 0 (MQ below (Q_M_staves D ca ad L r F9 B9 A) args s 0 0 A) (F0 m 24 ls []) := by
  obtain ⟨hx, hb, hr, hml, hown, hts, hlk, hK, hA, hL, hX⟩ := id X
  intro n
  induction n with
  | zero =>
    intros
    rename_i hf _ _ _
    cases hf
  | succ n ih =>
    intro l3 l2 l1 F B H locs ls hf hZ hS hl
    replace hf : (if 0 ≤ l1 ∧ l1 < 3 then if 0 ≤ l2 ∧ l2 < 4 then if r32 l3 then if r32 (B 13 l1 13 l2) then (if (B 13 l1 13 l2) ≤ l3 then zbind (f_M_groups K l1 l2 F B) (fun r12 F12 B12 => rec2 (l2 + 1) l1 F12 B12) else zbind (f_M_ledgers K l1 l2 l3 F B) (fun r13 F13 B13 => if 0 ≤ ((800 * l2) + l3) ∧ ((800 * l2) + l3) < 3200 then f_M_staves_24 rec2 K n (l3 + 1) l2 l1 F13 (zup4 B13 13 l1 38 ((800 * l2) + l3) r13) else none)) else none else none else none else none) = some (r, F9, B9) := hf
    refine lv_iload_n hx hb (D_29 W_prog_15_method_91_code_0 24 rfl rfl) rfl (lv_at hl 0 rfl) ?_
    refine lv_aload_n hx hb (D_43 W_prog_15_method_91_code_0 25 rfl rfl) rfl (lv_at hl 3 rfl) ?_
    obtain ⟨g7, hf⟩ := gif hf
    refine zget (ci := 13) (C := RX13) (T := TX13) (v := .ref (ad 13 l1 (13 + 1))) (k := 13) hx hb hts inW_13 hown hK hZ g7.1 g7.2 rfl (by decide) k_9_144 rfl (D_180 W_prog_15_method_91_code_0 26 rfl rfl rfl) ?_
    refine lv_iload_n hx hb (D_28 W_prog_15_method_91_code_0 29 rfl rfl) rfl (lv_at hl 1 rfl) ?_
    obtain ⟨g8, hf⟩ := gif hf
    refine zald (ci := 13) (k := 13) hx hb hK rfl hZ g7.1 g7.2 rfl (Nat.le_of_ble_eq_true rfl) g8.1 g8.2 (D_46 W_prog_15_method_91_code_0 30 rfl rfl) ?_
    obtain ⟨g9, hf⟩ := gif hf
    obtain ⟨g10, hf⟩ := gif hf
    refine zge (tgt := 59) hx hb g9 g10 (D_162 W_prog_15_method_91_code_0 31 rfl rfl rfl) (by decide) (fun h11 => ?_) (fun h11 => ?_)
    · replace hf := gpos hf h11
      refine lv_aload_n hx hb (D_42 W_prog_15_method_91_code_32 27 rfl rfl) rfl (lv_at hl 2 rfl) ?_
      refine lv_aload_n hx hb (D_43 W_prog_15_method_91_code_32 28 rfl rfl) rfl (lv_at hl 3 rfl) ?_
      refine lv_iload_n hx hb (D_28 W_prog_15_method_91_code_32 29 rfl rfl) rfl (lv_at hl 1 rfl) ?_
      obtain ⟨r12, F12, B12, hc12, hf⟩ := gbind hf
      refine va_callv (va_runV (As := [.ref (ad 13 l1 0), .int (iI l2)]) (rest := []) ⟨hx, hb, hml, hown, hts⟩ (c_M_groups (l := l) hc12) (cwV 2 hts (gdV k_15_77 k_15_79 ks_245 k_1_9 k_15_80) rfl rfl rfl (by decide +kernel) ⟨Nat.le_of_ble_eq_true rfl, Nat.le_of_ble_eq_true rfl⟩) (zPV X hZ hS (ci := 14) (by decide) (by decide) (r := (RX14, TX14, 107)) rfl [.ref (ad 13 l1 0), .int (iI l2)]) rfl rfl hl.1 rfl (lv_room (Nat.le_of_ble_eq_true rfl)) (D_182 W_prog_15_method_91_code_32 30 rfl rfl rfl) ⟨Nat.le_of_ble_eq_true rfl, Nat.le_of_ble_eq_true rfl⟩) hS (fun q _ h => zAin X hS q h) (zAin X hS) (fun u12 t12 H12 locs12 ht12 hv12 hw12 hB12 hz12 hk12 hS12 => ?_)
      have hZ12 := zBack X ht12 hB12
      refine lv_iinc (v := iI (l2 + 1)) (lv' := [(2, .int (iI (l2 + 1))), (3, .int (iI l3)), (0, .ref (ad 14 0 0)), (1, .ref (ad 13 l1 0))]) hx hb d_15_91_65 hl (k := 1) rfl (iI_add _ 1) (by decide) rfl (fun ls hl => ?_)
      refine lv_goto (tgt := 2) hx hb (D_167 W_prog_15_method_91_code_64 4 rfl rfl rfl) (by decide) ?_
      exact hrec2 hf hZ12 hS12 (lv_sub hl [0, 2, 3] rfl)
    · replace hf := gneg hf h11
      refine lv_aload_n hx hb (D_43 W_prog_15_method_91_code_32 2 rfl rfl) rfl (lv_at hl 3 rfl) ?_
      refine zget (ci := 13) (C := RX13) (T := TX13) (v := .ref (ad 13 l1 (38 + 1))) (k := 38) hx hb hts inW_13 hown hK hZ g7.1 g7.2 rfl (by decide) k_9_194 rfl (D_180 W_prog_15_method_91_code_32 3 rfl rfl rfl) ?_
      refine lv_sipush (v := iI 800) hx hb (D_17 W_prog_15_method_91_code_32 6 rfl rfl rfl) (by decide) ?_
      refine lv_iload_n hx hb (D_28 W_prog_15_method_91_code_32 9 rfl rfl) rfl (lv_at hl 1 rfl) ?_
      refine zmul hx hb (D_104 W_prog_15_method_91_code_32 10 rfl rfl) ?_
      refine lv_iload_n hx hb (D_29 W_prog_15_method_91_code_32 11 rfl rfl) rfl (lv_at hl 0 rfl) ?_
      refine zadd hx hb (D_96 W_prog_15_method_91_code_32 12 rfl rfl) ?_
      refine lv_aload_n hx hb (D_42 W_prog_15_method_91_code_32 13 rfl rfl) rfl (lv_at hl 2 rfl) ?_
      refine lv_aload_n hx hb (D_43 W_prog_15_method_91_code_32 14 rfl rfl) rfl (lv_at hl 3 rfl) ?_
      refine lv_iload_n hx hb (D_28 W_prog_15_method_91_code_32 15 rfl rfl) rfl (lv_at hl 1 rfl) ?_
      refine lv_iload_n hx hb (D_29 W_prog_15_method_91_code_32 16 rfl rfl) rfl (lv_at hl 0 rfl) ?_
      obtain ⟨r13, F13, B13, hc13, hf⟩ := gbind hf
      refine va_calli (va_runV (As := [.ref (ad 13 l1 0), .int (iI l2), .int (iI l3)]) (rest := [.int (iI ((800 * l2) + l3)), .ref (ad 13 l1 (38 + 1))]) ⟨hx, hb, hml, hown, hts⟩ (c_M_ledgers (l := l) hc13) (cwV 3 hts (gdV k_15_64 k_15_66 ks_244 k_1_9 k_15_67) rfl rfl rfl (by decide +kernel) ⟨Nat.le_of_ble_eq_true rfl, Nat.le_of_ble_eq_true rfl⟩) (zPV X hZ hS (ci := 14) (by decide) (by decide) (r := (RX14, TX14, 107)) rfl [.ref (ad 13 l1 0), .int (iI l2), .int (iI l3)]) rfl rfl hl.1 rfl (lv_room (Nat.le_of_ble_eq_true rfl)) (D_182 W_prog_15_method_91_code_32 17 rfl rfl rfl) ⟨Nat.le_of_ble_eq_true rfl, Nat.le_of_ble_eq_true rfl⟩) hS (fun q _ h => zAin X hS q h) (zAin X hS) (fun p13 u13 t13 H13 locs13 ht13 hv13 hw13 hB13 hz13 hk13 hS13 => ?_)
      have hZ13 := zBack X ht13 hB13
      subst hw13
      obtain ⟨g14, hf⟩ := gif hf
      refine zast (ci := 13) (k := 38) hx hb hK rfl hZ13 hS13 g7.1 g7.2 rfl (Nat.le_of_ble_eq_true rfl) g14.1 g14.2 (D_79 W_prog_15_method_91_code_32 20 rfl rfl) (fun H15 locs15 hZ15 hS15 => ?_)
      refine lv_iinc (v := iI (l3 + 1)) (lv' := [(3, .int (iI (l3 + 1))), (2, .int (iI l2)), (0, .ref (ad 14 0 0)), (1, .ref (ad 13 l1 0))]) hx hb d_15_91_53 hl (k := 0) rfl (iI_add _ 1) (by decide) rfl (fun ls hl => ?_)
      refine lv_goto (tgt := 24) hx hb (D_167 W_prog_15_method_91_code_32 24 rfl rfl rfl) (by decide) ?_
      exact ih hf hZ15 hS15 (lv_sub hl [0, 1, 2, 3] rfl)

def f_M_staves_2 (K : Nat) : Nat → Int → Int → zF → zB → zO
  | 0, _, _, _, _ => none
  | n + 1, l2, l1, F, B => if 0 ≤ l1 ∧ l1 < 3 then if r32 l2 then if r32 (F 13 l1 1) then (if (F 13 l1 1) ≤ l2 then some (0, F, B) else zbind (f_M_holds K l1 l2 F B) (fun r5 F5 B5 => zbind (f_M_accidentals K l1 l2 F5 B5) (fun r6 F6 B6 => f_M_staves_24 (f_M_staves_2 K n) K K 0 l2 l1 F6 B6))) else none else none else none
set_option maxHeartbeats 4000000 in
set_option maxRecDepth 100000 in
theorem b_M_staves_2 {D : va_G} {ca : Nat → ClassId} {ad : Nat → Int → Nat → Nat} {L : List Nat} {aS vS : Nat → Nat} {A : Nat → Prop} {p : Program} {l : Launch} {e : Env} {s : State} {m : MethodId} {args : Array Value} {below : List Frame} {meth : Method} {c : Code} {K : Nat} {r : Int} {F9 : zF} {B9 : zB} (X : zX D ca L aS vS A p s m args meth c prog_15_method_91_code 4 (Option.none : Option Jvm.ClassFile.FieldType) "StaveHouseModel") : ∀ {n : Nat} {l2 : Int} {l1 : Int} {F : zF} {B : zB} {H : Heap} {locs : List Loc} {ls : Array Slot}, f_M_staves_2 K n l2 l1 F B = some (r, F9, B9) → zH D ca ad lnM nM L F B A H → va_S A s.heap H locs → lv_has ls 4 [(2, .int (iI l2)), (0, .ref (ad 14 0 0)), (1, .ref (ad 13 l1 0))] → W p l e ({ frames := 4, cells := 0, slots := 0, locals := 102 } : Room) s m args below meth c H locs 0 0 (MQ below (Q_M_staves D ca ad L r F9 B9 A) args s 0 0 A) (F0 m 2 ls []) := by
  obtain ⟨hx, hb, hr, hml, hown, hts, hlk, hK, hA, hL, hX⟩ := id X
  intro n
  induction n with
  | zero =>
    intros
    rename_i hf _ _ _
    cases hf
  | succ n ih =>
    intro l2 l1 F B H locs ls hf hZ hS hl
    replace hf : (if 0 ≤ l1 ∧ l1 < 3 then if r32 l2 then if r32 (F 13 l1 1) then (if (F 13 l1 1) ≤ l2 then some (0, F, B) else zbind (f_M_holds K l1 l2 F B) (fun r5 F5 B5 => zbind (f_M_accidentals K l1 l2 F5 B5) (fun r6 F6 B6 => f_M_staves_24 (f_M_staves_2 K n) K K 0 l2 l1 F6 B6))) else none else none else none) = some (r, F9, B9) := hf
    refine lv_iload_n hx hb (D_28 W_prog_15_method_91_code_0 2 rfl rfl) rfl (lv_at hl 0 rfl) ?_
    refine lv_aload_n hx hb (D_43 W_prog_15_method_91_code_0 3 rfl rfl) rfl (lv_at hl 2 rfl) ?_
    obtain ⟨g1, hf⟩ := gif hf
    refine zget (ci := 13) (C := RX13) (T := TX13) (v := .int (iI (F 13 l1 1))) (k := 1) hx hb hts inW_13 hown hK hZ g1.1 g1.2 rfl (by decide) k_9_126 rfl (D_180 W_prog_15_method_91_code_0 4 rfl rfl rfl) ?_
    obtain ⟨g2, hf⟩ := gif hf
    obtain ⟨g3, hf⟩ := gif hf
    refine zge (tgt := 71) hx hb g2 g3 (D_162 W_prog_15_method_91_code_0 7 rfl rfl rfl) (by decide) (fun h4 => ?_) (fun h4 => ?_)
    · replace hf := gpos hf h4
      cases hf
      exact W.vret hx hb hr (fun t ht hW => ⟨⟨(), rfl, trivial, by rw [ht]; exact hZ, va_K.moved hW.alike hK⟩, hS.F ht⟩) hS.2.2 (D_177 W_prog_15_method_91_code_64 7 rfl rfl) hlk
    · replace hf := gneg hf h4
      refine lv_aload_n hx hb (D_42 W_prog_15_method_91_code_0 10 rfl rfl) rfl (lv_at hl 1 rfl) ?_
      refine lv_aload_n hx hb (D_43 W_prog_15_method_91_code_0 11 rfl rfl) rfl (lv_at hl 2 rfl) ?_
      refine lv_iload_n hx hb (D_28 W_prog_15_method_91_code_0 12 rfl rfl) rfl (lv_at hl 0 rfl) ?_
      obtain ⟨r5, F5, B5, hc5, hf⟩ := gbind hf
      refine va_callv (va_runV (As := [.ref (ad 13 l1 0), .int (iI l2)]) (rest := []) ⟨hx, hb, hml, hown, hts⟩ (c_M_holds (l := l) hc5) (cwV 2 hts (gdV k_15_52 k_15_54 ks_241 k_1_9 k_15_55) rfl rfl rfl (by decide +kernel) ⟨Nat.le_of_ble_eq_true rfl, Nat.le_of_ble_eq_true rfl⟩) (zPV X hZ hS (ci := 14) (by decide) (by decide) (r := (RX14, TX14, 107)) rfl [.ref (ad 13 l1 0), .int (iI l2)]) rfl rfl hl.1 rfl (lv_room (Nat.le_of_ble_eq_true rfl)) (D_182 W_prog_15_method_91_code_0 13 rfl rfl rfl) ⟨Nat.le_of_ble_eq_true rfl, Nat.le_of_ble_eq_true rfl⟩) hS (fun q _ h => zAin X hS q h) (zAin X hS) (fun u5 t5 H5 locs5 ht5 hv5 hw5 hB5 hz5 hk5 hS5 => ?_)
      have hZ5 := zBack X ht5 hB5
      refine lv_aload_n hx hb (D_42 W_prog_15_method_91_code_0 16 rfl rfl) rfl (lv_at hl 1 rfl) ?_
      refine lv_aload_n hx hb (D_43 W_prog_15_method_91_code_0 17 rfl rfl) rfl (lv_at hl 2 rfl) ?_
      refine lv_iload_n hx hb (D_28 W_prog_15_method_91_code_0 18 rfl rfl) rfl (lv_at hl 0 rfl) ?_
      obtain ⟨r6, F6, B6, hc6, hf⟩ := gbind hf
      refine va_callv (va_runV (As := [.ref (ad 13 l1 0), .int (iI l2)]) (rest := []) ⟨hx, hb, hml, hown, hts⟩ (c_M_accidentals (l := l) hc6) (cwV 2 hts (gdV k_15_56 k_15_58 ks_242 k_1_9 k_15_59) rfl rfl rfl (by decide +kernel) ⟨Nat.le_of_ble_eq_true rfl, Nat.le_of_ble_eq_true rfl⟩) (zPV X hZ5 hS5 (ci := 14) (by decide) (by decide) (r := (RX14, TX14, 107)) rfl [.ref (ad 13 l1 0), .int (iI l2)]) rfl rfl hl.1 rfl (lv_room (Nat.le_of_ble_eq_true rfl)) (D_182 W_prog_15_method_91_code_0 19 rfl rfl rfl) ⟨Nat.le_of_ble_eq_true rfl, Nat.le_of_ble_eq_true rfl⟩) hS5 (fun q _ h => zAin X hS5 q h) (zAin X hS5) (fun u6 t6 H6 locs6 ht6 hv6 hw6 hB6 hz6 hk6 hS6 => ?_)
      have hZ6 := zBack X ht6 hB6
      refine lv_iconst (v := iI 0) hx hb (D_3 W_prog_15_method_91_code_0 22 rfl rfl) rfl ?_
      refine lv_istore_n (lv' := [(3, .int (iI 0)), (2, .int (iI l2)), (0, .ref (ad 14 0 0)), (1, .ref (ad 13 l1 0))]) hx hb (D_62 W_prog_15_method_91_code_0 23 rfl rfl) rfl hl (by decide) rfl (fun ls hl => ?_)
      exact b_M_staves_24 X ih hf hZ6 hS6 (lv_sub hl [0, 1, 2, 3] rfl)

def f_M_staves (K : Nat) (l1 : Int) (F : zF) (B : zB) : zO := f_M_staves_2 K K 0 l1 F B
set_option maxHeartbeats 4000000 in
set_option maxRecDepth 100000 in
theorem c_M_staves {l : Launch} {D : va_G} {ca : Nat → ClassId} {ad : Nat → Int → Nat → Nat} {L : List Nat} {aS vS : Nat → Nat} {sz K : Nat}  {l1 : Int} {F F9 : zF} {B B9 : zB} {r : Int} (hf : f_M_staves K l1 F B = some (r, F9, B9)) : Met l ({ cls := "StaveHouseModel", name := "staves", desc := "(LStaveHouseModel$Piece;)V" } : Jvm.MethodName) (Cond.code ({ cls := "StaveHouseModel", name := "staves", desc := "(LStaveHouseModel$Piece;)V" } : Jvm.MethodName) prog_15_method_91_code 4 (Option.none : Option Jvm.ClassFile.FieldType) :: wAll) ({ frames := 4, cells := 0, slots := 0, locals := 102 } : Room) (va_Pc [.ref (ad 14 0 0), .ref (ad 13 l1 0)] (zPre D ca ad lnM nM L aS vS F B sz)) (Q_M_staves D ca ad L r F9 B9 (zA L sz)) 0 0 (zA L sz) := by
  refine zMet (Qc := Q_M_staves D ca ad L r F9 B9) (lv := [(0, .ref (ad 14 0 0)), (1, .ref (ad 13 l1 0))]) (by decide) (Nat.le_of_ble_eq_true rfl) rfl (fun A p e s m below meth c ls X hZ hS hl => ?_)
  obtain ⟨hx, hb, hr, hml, hown, hts, hlk, hK, hA, hL, hX⟩ := id X
  replace hf : (f_M_staves_2 K K 0 l1 F B) = some (r, F9, B9) := hf
  refine lv_iconst (v := iI 0) hx hb (D_3 W_prog_15_method_91_code_0 0 rfl rfl) rfl ?_
  refine lv_istore_n (lv' := [(2, .int (iI 0)), (0, .ref (ad 14 0 0)), (1, .ref (ad 13 l1 0))]) hx hb (D_61 W_prog_15_method_91_code_0 1 rfl rfl) rfl hl (by decide) rfl (fun ls hl => ?_)
  exact b_M_staves_2 X hf hZ hS (lv_sub hl [0, 1, 2] rfl)

abbrev Q_M_between_0 (D : va_G) (ca : Nat → ClassId) (ad : Nat → Int → Nat → Nat) (L : List Nat) (r : Int) (F : zF) (B : zB) (A : Nat → Prop) : Array Value → State → Outcome → State → Prop := va_Qv (S := Unit) (fun _ => True) (fun _ => zPo D ca ad lnM nM L F B A) A
def f_M_between_0_127 (rec7 : Int → Int → zF → zB → zO) (rec17 : Int → Int → Int → zF → zB → zO) (rec26 : Int → Int → Int → Int → zF → zB → zO) (K : Nat) (l4 : Int) (l3 : Int) (l2 : Int) (l1 : Int) (F : zF) (B : zB) : zO := rec26 (l4 + 1) l3 l2 l1 F B
set_option maxHeartbeats 4000000 in
set_option maxRecDepth 100000 in
theorem b_M_between_0_127 {D : va_G} {ca : Nat → ClassId} {ad : Nat → Int → Nat → Nat} {L : List Nat} {aS vS : Nat → Nat} {A : Nat → Prop} {p : Program} {l : Launch} {e : Env} {s : State} {m : MethodId} {args : Array Value} {below : List Frame} {meth : Method} {c : Code} {K : Nat} {r : Int} {F9 : zF} {B9 : zB} (X : zX D ca L aS vS A p s m args meth c prog_15_method_186_code 6 (Option.none : Option Jvm.ClassFile.FieldType) "StaveHouseModel") {rec7 : Int → Int → zF → zB → zO} {rec17 : Int → Int → Int → zF → zB → zO} {rec26 : Int → Int → Int → Int → zF → zB → zO} (hrec7 : ∀ {l2 : Int} {l1 : Int} {F : zF} {B : zB} {H : Heap} {locs : List Loc} {ls : Array Slot}, rec7 l2 l1 F B = some (r, F9, B9) → zH D ca ad lnM nM L F B A H → va_S A s.heap H locs → lv_has ls 6 [(2, .int (iI l2)), (1, .ref (ad 13 l1 0))] → W p l e ({ frames := 4, cells := 0, slots := 0, locals := 105 } : Room) s m args below meth c H locs 0 0 (MQ below (Q_M_between_0 D ca ad L r F9 B9 A) args s 0 0 A) (F0 m 7 ls [])) (hrec17 : ∀ {l3 : Int} {l2 : Int} {l1 : Int} {F : zF} {B : zB} {H : Heap} {locs : List Loc} {ls : Array Slot}, rec17 l3 l2 l1 F B = some (r, F9, B9) → zH D ca ad lnM nM L F B A H → va_S A s.heap H locs → lv_has ls 6 [(3, .int (iI l3)), (2, .int (iI l2)), (1, .ref (ad 13 l1 0))] → W p l e ({ frames := 4, cells := 0, slots := 0, locals := 105 } : Room) s m args below meth c H locs 0 0 (MQ below (Q_M_between_0 D ca ad L r F9 B9 A) args s 0 0 A) (F0 m 17 ls [])) (hrec26 : ∀ {l4 : Int} {l3 : Int} {l2 : Int} {l1 : Int} {F : zF} {B : zB} {H : Heap} {locs : List Loc} {ls : Array Slot}, rec26 l4 l3 l2 l1 F B = some (r, F9, B9) → zH D ca ad lnM nM L F B A H → va_S A s.heap H locs → lv_has ls 6 [(4, .int (iI l4)), (3, .int (iI l3)), (2, .int (iI l2)), (1, .ref (ad 13 l1 0))] → W p l e ({ frames := 4, cells := 0, slots := 0, locals := 105 } : Room) s m args below meth c H locs 0 0 (MQ below (Q_M_between_0 D ca ad L r F9 B9 A) args s 0 0 A) (F0 m 26 ls [])) {l4 : Int} {l3 : Int} {l2 : Int} {l1 : Int} {F : zF} {B : zB} {H : Heap} {locs : List Loc} {ls : Array Slot} (hf : f_M_between_0_127 rec7 rec17 rec26 K l4 l3 l2 l1 F B = some (r, F9, B9)) (hZ : zH D ca ad lnM nM L F B A H) (hS : va_S A s.heap H locs) (hl : lv_has ls 6 [(4, .int (iI l4)), (3, .int (iI l3)), (2, .int (iI l2)), (1, .ref (ad 13 l1 0))]) : W p l e ({ frames := 4, cells := 0, slots := 0, locals := 105 } : Room) s m args below meth c H locs 0 0 (MQ below (Q_M_between_0 D ca ad L r F9 B9 A) args s 0 0 A) (F0 m 127 ls []) := by
  obtain ⟨hx, hb, hr, hml, hown, hts, hlk, hK, hA, hL, hX⟩ := id X
  replace hf : (rec26 (l4 + 1) l3 l2 l1 F B) = some (r, F9, B9) := hf
  refine lv_iinc (v := iI (l4 + 1)) (lv' := [(4, .int (iI (l4 + 1))), (3, .int (iI l3)), (2, .int (iI l2)), (1, .ref (ad 13 l1 0))]) hx hb d_15_186_127 hl (k := 0) rfl (iI_add _ 1) (by decide) rfl (fun ls hl => ?_)
  refine lv_goto (tgt := 26) hx hb (D_167 W_prog_15_method_186_code_128 2 rfl rfl rfl) (by decide) ?_
  exact hrec26 hf hZ hS (lv_sub hl [0, 1, 2, 3] rfl)

def f_M_between_0_121 (rec7 : Int → Int → zF → zB → zO) (rec17 : Int → Int → Int → zF → zB → zO) (rec26 : Int → Int → Int → Int → zF → zB → zO) (rec69 : Int → Int → Int → Int → Int → zF → zB → zO) (K : Nat) (l5 : Int) (l4 : Int) (l3 : Int) (l2 : Int) (l1 : Int) (F : zF) (B : zB) : zO := rec69 (l5 + 1) l4 l3 l2 l1 F B
set_option maxHeartbeats 4000000 in
set_option maxRecDepth 100000 in
theorem b_M_between_0_121 {D : va_G} {ca : Nat → ClassId} {ad : Nat → Int → Nat → Nat} {L : List Nat} {aS vS : Nat → Nat} {A : Nat → Prop} {p : Program} {l : Launch} {e : Env} {s : State} {m : MethodId} {args : Array Value} {below : List Frame} {meth : Method} {c : Code} {K : Nat} {r : Int} {F9 : zF} {B9 : zB} (X : zX D ca L aS vS A p s m args meth c prog_15_method_186_code 6 (Option.none : Option Jvm.ClassFile.FieldType) "StaveHouseModel") {rec7 : Int → Int → zF → zB → zO} {rec17 : Int → Int → Int → zF → zB → zO} {rec26 : Int → Int → Int → Int → zF → zB → zO} {rec69 : Int → Int → Int → Int → Int → zF → zB → zO} (hrec7 : ∀ {l2 : Int} {l1 : Int} {F : zF} {B : zB} {H : Heap} {locs : List Loc} {ls : Array Slot}, rec7 l2 l1 F B = some (r, F9, B9) → zH D ca ad lnM nM L F B A H → va_S A s.heap H locs → lv_has ls 6 [(2, .int (iI l2)), (1, .ref (ad 13 l1 0))] → W p l e ({ frames := 4, cells := 0, slots := 0, locals := 105 } : Room) s m args below meth c H locs 0 0 (MQ below (Q_M_between_0 D ca ad L r F9 B9 A) args s 0 0 A) (F0 m 7 ls [])) (hrec17 : ∀ {l3 : Int} {l2 : Int} {l1 : Int} {F : zF} {B : zB} {H : Heap} {locs : List Loc} {ls : Array Slot}, rec17 l3 l2 l1 F B = some (r, F9, B9) → zH D ca ad lnM nM L F B A H → va_S A s.heap H locs → lv_has ls 6 [(3, .int (iI l3)), (2, .int (iI l2)), (1, .ref (ad 13 l1 0))] → W p l e ({ frames := 4, cells := 0, slots := 0, locals := 105 } : Room) s m args below meth c H locs 0 0 (MQ below (Q_M_between_0 D ca ad L r F9 B9 A) args s 0 0 A) (F0 m 17 ls [])) (hrec26 : ∀ {l4 : Int} {l3 : Int} {l2 : Int} {l1 : Int} {F : zF} {B : zB} {H : Heap} {locs : List Loc} {ls : Array Slot}, rec26 l4 l3 l2 l1 F B = some (r, F9, B9) → zH D ca ad lnM nM L F B A H → va_S A s.heap H locs → lv_has ls 6 [(4, .int (iI l4)), (3, .int (iI l3)), (2, .int (iI l2)), (1, .ref (ad 13 l1 0))] → W p l e ({ frames := 4, cells := 0, slots := 0, locals := 105 } : Room) s m args below meth c H locs 0 0 (MQ below (Q_M_between_0 D ca ad L r F9 B9 A) args s 0 0 A) (F0 m 26 ls [])) (hrec69 : ∀ {l5 : Int} {l4 : Int} {l3 : Int} {l2 : Int} {l1 : Int} {F : zF} {B : zB} {H : Heap} {locs : List Loc} {ls : Array Slot}, rec69 l5 l4 l3 l2 l1 F B = some (r, F9, B9) → zH D ca ad lnM nM L F B A H → va_S A s.heap H locs → lv_has ls 6 [(5, .int (iI l5)), (4, .int (iI l4)), (3, .int (iI l3)), (2, .int (iI l2)), (1, .ref (ad 13 l1 0))] → W p l e ({ frames := 4, cells := 0, slots := 0, locals := 105 } : Room) s m args below meth c H locs 0 0 (MQ below (Q_M_between_0 D ca ad L r F9 B9 A) args s 0 0 A) (F0 m 69 ls [])) {l5 : Int} {l4 : Int} {l3 : Int} {l2 : Int} {l1 : Int} {F : zF} {B : zB} {H : Heap} {locs : List Loc} {ls : Array Slot} (hf : f_M_between_0_121 rec7 rec17 rec26 rec69 K l5 l4 l3 l2 l1 F B = some (r, F9, B9)) (hZ : zH D ca ad lnM nM L F B A H) (hS : va_S A s.heap H locs) (hl : lv_has ls 6 [(5, .int (iI l5)), (4, .int (iI l4)), (3, .int (iI l3)), (2, .int (iI l2)), (1, .ref (ad 13 l1 0))]) : W p l e ({ frames := 4, cells := 0, slots := 0, locals := 105 } : Room) s m args below meth c H locs 0 0 (MQ below (Q_M_between_0 D ca ad L r F9 B9 A) args s 0 0 A) (F0 m 121 ls []) := by
  obtain ⟨hx, hb, hr, hml, hown, hts, hlk, hK, hA, hL, hX⟩ := id X
  replace hf : (rec69 (l5 + 1) l4 l3 l2 l1 F B) = some (r, F9, B9) := hf
  refine lv_iinc (v := iI (l5 + 1)) (lv' := [(5, .int (iI (l5 + 1))), (4, .int (iI l4)), (3, .int (iI l3)), (2, .int (iI l2)), (1, .ref (ad 13 l1 0))]) hx hb d_15_186_121 hl (k := 0) rfl (iI_add _ 1) (by decide) rfl (fun ls hl => ?_)
  refine lv_goto (tgt := 69) hx hb (D_167 W_prog_15_method_186_code_96 28 rfl rfl rfl) (by decide) ?_
  exact hrec69 hf hZ hS (lv_sub hl [0, 1, 2, 3, 4] rfl)

def f_M_between_0_111 (rec7 : Int → Int → zF → zB → zO) (rec17 : Int → Int → Int → zF → zB → zO) (rec26 : Int → Int → Int → Int → zF → zB → zO) (rec69 : Int → Int → Int → Int → Int → zF → zB → zO) (K : Nat) (l5 : Int) (l4 : Int) (l3 : Int) (l2 : Int) (l1 : Int) (F : zF) (B : zB) : zO := zbind (f_M_fault_1 K l1 l2 l3 l4 l5 F B) (fun r31 F31 B31 => f_M_between_0_121 rec7 rec17 rec26 rec69 K l5 l4 l3 l2 l1 F31 B31)
set_option maxHeartbeats 4000000 in
set_option maxRecDepth 100000 in
theorem b_M_between_0_111 {D : va_G} {ca : Nat → ClassId} {ad : Nat → Int → Nat → Nat} {L : List Nat} {aS vS : Nat → Nat} {A : Nat → Prop} {p : Program} {l : Launch} {e : Env} {s : State} {m : MethodId} {args : Array Value} {below : List Frame} {meth : Method} {c : Code} {K : Nat} {r : Int} {F9 : zF} {B9 : zB} (X : zX D ca L aS vS A p s m args meth c prog_15_method_186_code 6 (Option.none : Option Jvm.ClassFile.FieldType) "StaveHouseModel") {rec7 : Int → Int → zF → zB → zO} {rec17 : Int → Int → Int → zF → zB → zO} {rec26 : Int → Int → Int → Int → zF → zB → zO} {rec69 : Int → Int → Int → Int → Int → zF → zB → zO} (hrec7 : ∀ {l2 : Int} {l1 : Int} {F : zF} {B : zB} {H : Heap} {locs : List Loc} {ls : Array Slot}, rec7 l2 l1 F B = some (r, F9, B9) → zH D ca ad lnM nM L F B A H → va_S A s.heap H locs → lv_has ls 6 [(2, .int (iI l2)), (1, .ref (ad 13 l1 0))] → W p l e ({ frames := 4, cells := 0, slots := 0, locals := 105 } : Room) s m args below meth c H locs 0 0 (MQ below (Q_M_between_0 D ca ad L r F9 B9 A) args s 0 0 A) (F0 m 7 ls [])) (hrec17 : ∀ {l3 : Int} {l2 : Int} {l1 : Int} {F : zF} {B : zB} {H : Heap} {locs : List Loc} {ls : Array Slot}, rec17 l3 l2 l1 F B = some (r, F9, B9) → zH D ca ad lnM nM L F B A H → va_S A s.heap H locs → lv_has ls 6 [(3, .int (iI l3)), (2, .int (iI l2)), (1, .ref (ad 13 l1 0))] → W p l e ({ frames := 4, cells := 0, slots := 0, locals := 105 } : Room) s m args below meth c H locs 0 0 (MQ below (Q_M_between_0 D ca ad L r F9 B9 A) args s 0 0 A) (F0 m 17 ls [])) (hrec26 : ∀ {l4 : Int} {l3 : Int} {l2 : Int} {l1 : Int} {F : zF} {B : zB} {H : Heap} {locs : List Loc} {ls : Array Slot}, rec26 l4 l3 l2 l1 F B = some (r, F9, B9) → zH D ca ad lnM nM L F B A H → va_S A s.heap H locs → lv_has ls 6 [(4, .int (iI l4)), (3, .int (iI l3)), (2, .int (iI l2)), (1, .ref (ad 13 l1 0))] → W p l e ({ frames := 4, cells := 0, slots := 0, locals := 105 } : Room) s m args below meth c H locs 0 0 (MQ below (Q_M_between_0 D ca ad L r F9 B9 A) args s 0 0 A) (F0 m 26 ls [])) (hrec69 : ∀ {l5 : Int} {l4 : Int} {l3 : Int} {l2 : Int} {l1 : Int} {F : zF} {B : zB} {H : Heap} {locs : List Loc} {ls : Array Slot}, rec69 l5 l4 l3 l2 l1 F B = some (r, F9, B9) → zH D ca ad lnM nM L F B A H → va_S A s.heap H locs → lv_has ls 6 [(5, .int (iI l5)), (4, .int (iI l4)), (3, .int (iI l3)), (2, .int (iI l2)), (1, .ref (ad 13 l1 0))] → W p l e ({ frames := 4, cells := 0, slots := 0, locals := 105 } : Room) s m args below meth c H locs 0 0 (MQ below (Q_M_between_0 D ca ad L r F9 B9 A) args s 0 0 A) (F0 m 69 ls [])) {l5 : Int} {l4 : Int} {l3 : Int} {l2 : Int} {l1 : Int} {F : zF} {B : zB} {H : Heap} {locs : List Loc} {ls : Array Slot} (hf : f_M_between_0_111 rec7 rec17 rec26 rec69 K l5 l4 l3 l2 l1 F B = some (r, F9, B9)) (hZ : zH D ca ad lnM nM L F B A H) (hS : va_S A s.heap H locs) (hl : lv_has ls 6 [(5, .int (iI l5)), (4, .int (iI l4)), (3, .int (iI l3)), (2, .int (iI l2)), (1, .ref (ad 13 l1 0))]) : W p l e ({ frames := 4, cells := 0, slots := 0, locals := 105 } : Room) s m args below meth c H locs 0 0 (MQ below (Q_M_between_0 D ca ad L r F9 B9 A) args s 0 0 A) (F0 m 111 ls []) := by
  obtain ⟨hx, hb, hr, hml, hown, hts, hlk, hK, hA, hL, hX⟩ := id X
  replace hf : (zbind (f_M_fault_1 K l1 l2 l3 l4 l5 F B) (fun r31 F31 B31 => f_M_between_0_121 rec7 rec17 rec26 rec69 K l5 l4 l3 l2 l1 F31 B31)) = some (r, F9, B9) := hf
  refine lv_aload_n hx hb (D_43 W_prog_15_method_186_code_96 15 rfl rfl) rfl (lv_at hl 4 rfl) ?_
  refine lv_iload_n hx hb (D_28 W_prog_15_method_186_code_96 16 rfl rfl) rfl (lv_at hl 3 rfl) ?_
  refine lv_iload_n hx hb (D_29 W_prog_15_method_186_code_96 17 rfl rfl) rfl (lv_at hl 2 rfl) ?_
  refine lv_iload hx hb (D_21 W_prog_15_method_186_code_96 18 rfl rfl) (lv_at hl 1 rfl) ?_
  refine lv_iload hx hb (D_21 W_prog_15_method_186_code_96 20 rfl rfl) (lv_at hl 0 rfl) ?_
  obtain ⟨r31, F31, B31, hc31, hf⟩ := gbind hf
  refine va_callv (va_runS (As := [.ref (ad 13 l1 0), .int (iI l2), .int (iI l3), .int (iI l4), .int (iI l5)]) (rest := []) ⟨hx, hb, hml, hown, hts⟩ (c_M_fault_1 (l := l) hc31) (va_cwS 5 hts (gdS k_15_127 k_15_128 k_1_9 k_15_129) rfl rfl rfl (by decide +kernel) ⟨Nat.le_of_ble_eq_true rfl, Nat.le_of_ble_eq_true rfl⟩) (zPS X hZ hS [.ref (ad 13 l1 0), .int (iI l2), .int (iI l3), .int (iI l4), .int (iI l5)]) rfl rfl hl.1 rfl (lv_room (Nat.le_of_ble_eq_true rfl)) (D_184 W_prog_15_method_186_code_96 22 rfl rfl rfl) ⟨Nat.le_of_ble_eq_true rfl, Nat.le_of_ble_eq_true rfl⟩) hS (fun q _ h => zAin X hS q h) (zAin X hS) (fun u31 t31 H31 locs31 ht31 hv31 hw31 hB31 hz31 hk31 hS31 => ?_)
  have hZ31 := zBack X ht31 hB31
  exact b_M_between_0_121 X hrec7 hrec17 hrec26 hrec69 hf hZ31 hS31 (lv_sub hl [0, 1, 2, 3, 4] rfl)

def f_M_between_0_69 (rec7 : Int → Int → zF → zB → zO) (rec17 : Int → Int → Int → zF → zB → zO) (rec26 : Int → Int → Int → Int → zF → zB → zO) (K : Nat) : Nat → Int → Int → Int → Int → Int → zF → zB → zO
  | 0, _, _, _, _, _, _, _ => none
  | n + 1, l5, l4, l3, l2, l1, F, B => if 0 ≤ l1 ∧ l1 < 3 then if r32 l5 then if r32 (F 13 l1 1) then (if (F 13 l1 1) ≤ l5 then f_M_between_0_127 rec7 rec17 rec26 K l4 l3 l2 l1 F B else if r32 l3 then (if l3 = 4 then zbind (f_M_isCrossed K l1 l2 l4 l5 F B) (fun r28 F28 B28 => if r32 r28 then (if r28 = 0 then f_M_between_0_121 rec7 rec17 rec26 (f_M_between_0_69 rec7 rec17 rec26 K n) K l5 l4 l3 l2 l1 F28 B28 else f_M_between_0_111 rec7 rec17 rec26 (f_M_between_0_69 rec7 rec17 rec26 K n) K l5 l4 l3 l2 l1 F28 B28) else none) else zbind (f_M_isParallel K l1 l2 l3 l4 l5 F B) (fun r25 F25 B25 => if r32 r25 then (if r25 = 0 then f_M_between_0_121 rec7 rec17 rec26 (f_M_between_0_69 rec7 rec17 rec26 K n) K l5 l4 l3 l2 l1 F25 B25 else f_M_between_0_111 rec7 rec17 rec26 (f_M_between_0_69 rec7 rec17 rec26 K n) K l5 l4 l3 l2 l1 F25 B25) else none)) else none) else none else none else none
set_option maxHeartbeats 4000000 in
set_option maxRecDepth 100000 in
theorem b_M_between_0_69 {D : va_G} {ca : Nat → ClassId} {ad : Nat → Int → Nat → Nat} {L : List Nat} {aS vS : Nat → Nat} {A : Nat → Prop} {p : Program} {l : Launch} {e : Env} {s : State} {m : MethodId} {args : Array Value} {below : List Frame} {meth : Method} {c : Code} {K : Nat} {r : Int} {F9 : zF} {B9 : zB} (X : zX D ca L aS vS A p s m args meth c prog_15_method_186_code 6 (Option.none : Option Jvm.ClassFile.FieldType) "StaveHouseModel") {rec7 : Int → Int → zF → zB → zO} {rec17 : Int → Int → Int → zF → zB → zO} {rec26 : Int → Int → Int → Int → zF → zB → zO} (hrec7 : ∀ {l2 : Int} {l1 : Int} {F : zF} {B : zB} {H : Heap} {locs : List Loc} {ls : Array Slot}, rec7 l2 l1 F B = some (r, F9, B9) → zH D ca ad lnM nM L F B A H → va_S A s.heap H locs → lv_has ls 6 [(2, .int (iI l2)), (1, .ref (ad 13 l1 0))] → W p l e ({ frames := 4, cells := 0, slots := 0, locals := 105 } : Room) s m args below meth c H locs 0 0 (MQ below (Q_M_between_0 D ca ad L r F9 B9 A) args s 0 0 A) (F0 m 7 ls [])) (hrec17 : ∀ {l3 : Int} {l2 : Int} {l1 : Int} {F : zF} {B : zB} {H : Heap} {locs : List Loc} {ls : Array Slot}, rec17 l3 l2 l1 F B = some (r, F9, B9) → zH D ca ad lnM nM L F B A H → va_S A s.heap H locs → lv_has ls 6 [(3, .int (iI l3)), (2, .int (iI l2)), (1, .ref (ad 13 l1 0))] → W p l e ({ frames := 4, cells := 0, slots := 0, locals := 105 } : Room) s m args below meth c H locs 0 0 (MQ below (Q_M_between_0 D ca ad L r F9 B9 A) args s 0 0 A) (F0 m 17 ls [])) (hrec26 : ∀ {l4 : Int} {l3 : Int} {l2 : Int} {l1 : Int} {F : zF} {B : zB} {H : Heap} {locs : List Loc} {ls : Array Slot}, rec26 l4 l3 l2 l1 F B = some (r, F9, B9) → zH D ca ad lnM nM L F B A H → va_S A s.heap H locs → lv_has ls 6 [(4, .int (iI l4)), (3, .int (iI l3)), (2, .int (iI l2)), (1, .ref (ad 13 l1 0))] → W p l e ({ frames := 4, cells := 0, slots := 0, locals := 105 } : Room) s m args below meth c H locs 0 0 (MQ below (Q_M_between_0 D ca ad L r F9 B9 A) args s 0 0 A) (F0 m 26 ls [])) : ∀ {n : Nat} {l5 : Int} {l4 : Int} {l3 : Int} {l2 : Int} {l1 : Int} {F : zF} {B : zB} {H : Heap} {locs : List Loc} {ls : Array Slot}, f_M_between_0_69 rec7 rec17 rec26 K n l5 l4 l3 l2 l1 F B = some (r, F9, B9) → zH D ca ad lnM nM L F B A H → va_S A s.heap H locs → lv_has ls 6 [(5, .int (iI l5)), (4, .int (iI l4)), (3, .int (iI l3)), (2, .int (iI l2)), (1, .ref (ad 13 l1 0))] → W p l e ({ frames := 4, cells := 0, slots := 0, locals := 105 } : Room) s m args below meth c H locs 0 0 (MQ below (Q_M_between_0 D ca ad L r F9 B9 A) args s 0 0 A) (F0 m 69 ls []) := by
  obtain ⟨hx, hb, hr, hml, hown, hts, hlk, hK, hA, hL, hX⟩ := id X
  intro n
  induction n with
  | zero =>
    intros
    rename_i hf _ _ _
    cases hf
  | succ n ih =>
    intro l5 l4 l3 l2 l1 F B H locs ls hf hZ hS hl
    replace hf : (if 0 ≤ l1 ∧ l1 < 3 then if r32 l5 then if r32 (F 13 l1 1) then (if (F 13 l1 1) ≤ l5 then f_M_between_0_127 rec7 rec17 rec26 K l4 l3 l2 l1 F B else if r32 l3 then (if l3 = 4 then zbind (f_M_isCrossed K l1 l2 l4 l5 F B) (fun r28 F28 B28 => if r32 r28 then (if r28 = 0 then f_M_between_0_121 rec7 rec17 rec26 (f_M_between_0_69 rec7 rec17 rec26 K n) K l5 l4 l3 l2 l1 F28 B28 else f_M_between_0_111 rec7 rec17 rec26 (f_M_between_0_69 rec7 rec17 rec26 K n) K l5 l4 l3 l2 l1 F28 B28) else none) else zbind (f_M_isParallel K l1 l2 l3 l4 l5 F B) (fun r25 F25 B25 => if r32 r25 then (if r25 = 0 then f_M_between_0_121 rec7 rec17 rec26 (f_M_between_0_69 rec7 rec17 rec26 K n) K l5 l4 l3 l2 l1 F25 B25 else f_M_between_0_111 rec7 rec17 rec26 (f_M_between_0_69 rec7 rec17 rec26 K n) K l5 l4 l3 l2 l1 F25 B25) else none)) else none) else none else none else none) = some (r, F9, B9) := hf
    refine lv_iload hx hb (D_21 W_prog_15_method_186_code_64 5 rfl rfl) (lv_at hl 0 rfl) ?_
    refine lv_aload_n hx hb (D_43 W_prog_15_method_186_code_64 7 rfl rfl) rfl (lv_at hl 4 rfl) ?_
    obtain ⟨g19, hf⟩ := gif hf
    refine zget (ci := 13) (C := RX13) (T := TX13) (v := .int (iI (F 13 l1 1))) (k := 1) hx hb hts inW_13 hown hK hZ g19.1 g19.2 rfl (by decide) k_9_126 rfl (D_180 W_prog_15_method_186_code_64 8 rfl rfl rfl) ?_
    obtain ⟨g20, hf⟩ := gif hf
    obtain ⟨g21, hf⟩ := gif hf
    refine zge (tgt := 127) hx hb g20 g21 (D_162 W_prog_15_method_186_code_64 11 rfl rfl rfl) (by decide) (fun h22 => ?_) (fun h22 => ?_)
    · replace hf := gpos hf h22
      exact b_M_between_0_127 X hrec7 hrec17 hrec26 hf hZ hS (lv_sub hl [1, 2, 3, 4] rfl)
    · replace hf := gneg hf h22
      refine lv_iload_n hx hb (D_29 W_prog_15_method_186_code_64 14 rfl rfl) rfl (lv_at hl 2 rfl) ?_
      refine lv_iconst (v := iI 4) hx hb (D_7 W_prog_15_method_186_code_64 15 rfl rfl) rfl ?_
      obtain ⟨g23, hf⟩ := gif hf
      refine zne (tgt := 98) hx hb g23 (by decide) (D_160 W_prog_15_method_186_code_64 16 rfl rfl rfl) (by decide) (fun h24 => ?_) (fun h24 => ?_)
      · replace hf := gneg hf h24
        refine lv_aload_n hx hb (D_43 W_prog_15_method_186_code_96 2 rfl rfl) rfl (lv_at hl 4 rfl) ?_
        refine lv_iload_n hx hb (D_28 W_prog_15_method_186_code_96 3 rfl rfl) rfl (lv_at hl 3 rfl) ?_
        refine lv_iload_n hx hb (D_29 W_prog_15_method_186_code_96 4 rfl rfl) rfl (lv_at hl 2 rfl) ?_
        refine lv_iload hx hb (D_21 W_prog_15_method_186_code_96 5 rfl rfl) (lv_at hl 1 rfl) ?_
        refine lv_iload hx hb (D_21 W_prog_15_method_186_code_96 7 rfl rfl) (lv_at hl 0 rfl) ?_
        obtain ⟨r25, F25, B25, hc25, hf⟩ := gbind hf
        refine va_calli (va_runS (As := [.ref (ad 13 l1 0), .int (iI l2), .int (iI l3), .int (iI l4), .int (iI l5)]) (rest := []) ⟨hx, hb, hml, hown, hts⟩ (c_M_isParallel (l := l) hc25) (va_cwS 5 hts (gdS k_15_136 k_15_137 k_1_9 k_15_138) rfl rfl rfl (by decide +kernel) ⟨Nat.le_of_ble_eq_true rfl, Nat.le_of_ble_eq_true rfl⟩) (zPS X hZ hS [.ref (ad 13 l1 0), .int (iI l2), .int (iI l3), .int (iI l4), .int (iI l5)]) rfl rfl hl.1 rfl (lv_room (Nat.le_of_ble_eq_true rfl)) (D_184 W_prog_15_method_186_code_96 9 rfl rfl rfl) ⟨Nat.le_of_ble_eq_true rfl, Nat.le_of_ble_eq_true rfl⟩) hS (fun q _ h => zAin X hS q h) (zAin X hS) (fun p25 u25 t25 H25 locs25 ht25 hv25 hw25 hB25 hz25 hk25 hS25 => ?_)
        have hZ25 := zBack X ht25 hB25
        subst hw25
        obtain ⟨g26, hf⟩ := gif hf
        refine z0eq (tgt := 121) hx hb g26 (D_153 W_prog_15_method_186_code_96 12 rfl rfl rfl) (by decide) (fun h27 => ?_) (fun h27 => ?_)
        · replace hf := gpos hf h27
          exact b_M_between_0_121 X hrec7 hrec17 hrec26 ih hf hZ25 hS25 (lv_sub hl [0, 1, 2, 3, 4] rfl)
        · replace hf := gneg hf h27
          exact b_M_between_0_111 X hrec7 hrec17 hrec26 ih hf hZ25 hS25 (lv_sub hl [0, 1, 2, 3, 4] rfl)
      · replace hf := gpos hf h24
        refine lv_aload_n hx hb (D_43 W_prog_15_method_186_code_64 19 rfl rfl) rfl (lv_at hl 4 rfl) ?_
        refine lv_iload_n hx hb (D_28 W_prog_15_method_186_code_64 20 rfl rfl) rfl (lv_at hl 3 rfl) ?_
        refine lv_iload hx hb (D_21 W_prog_15_method_186_code_64 21 rfl rfl) (lv_at hl 1 rfl) ?_
        refine lv_iload hx hb (D_21 W_prog_15_method_186_code_64 23 rfl rfl) (lv_at hl 0 rfl) ?_
        obtain ⟨r28, F28, B28, hc28, hf⟩ := gbind hf
        refine va_calli (va_runS (As := [.ref (ad 13 l1 0), .int (iI l2), .int (iI l4), .int (iI l5)]) (rest := []) ⟨hx, hb, hml, hown, hts⟩ (c_M_isCrossed (l := l) hc28) (va_cwS 4 hts (gdS k_15_130 k_15_131 k_1_9 k_15_132) rfl rfl rfl (by decide +kernel) ⟨Nat.le_of_ble_eq_true rfl, Nat.le_of_ble_eq_true rfl⟩) (zPS X hZ hS [.ref (ad 13 l1 0), .int (iI l2), .int (iI l4), .int (iI l5)]) rfl rfl hl.1 rfl (lv_room (Nat.le_of_ble_eq_true rfl)) (D_184 W_prog_15_method_186_code_64 25 rfl rfl rfl) ⟨Nat.le_of_ble_eq_true rfl, Nat.le_of_ble_eq_true rfl⟩) hS (fun q _ h => zAin X hS q h) (zAin X hS) (fun p28 u28 t28 H28 locs28 ht28 hv28 hw28 hB28 hz28 hk28 hS28 => ?_)
        have hZ28 := zBack X ht28 hB28
        subst hw28
        obtain ⟨g29, hf⟩ := gif hf
        refine z0eq (tgt := 121) hx hb g29 (D_153 W_prog_15_method_186_code_64 28 rfl rfl rfl) (by decide) (fun h30 => ?_) (fun h30 => ?_)
        · replace hf := gpos hf h30
          exact b_M_between_0_121 X hrec7 hrec17 hrec26 ih hf hZ28 hS28 (lv_sub hl [0, 1, 2, 3, 4] rfl)
        · replace hf := gneg hf h30
          refine lv_goto (tgt := 111) hx hb (D_167 W_prog_15_method_186_code_64 31 rfl rfl rfl) (by decide) ?_
          exact b_M_between_0_111 X hrec7 hrec17 hrec26 ih hf hZ28 hS28 (lv_sub hl [0, 1, 2, 3, 4] rfl)

def f_M_between_0_26 (rec7 : Int → Int → zF → zB → zO) (rec17 : Int → Int → Int → zF → zB → zO) (K : Nat) : Nat → Int → Int → Int → Int → zF → zB → zO
  | 0, _, _, _, _, _, _ => none
  | n + 1, l4, l3, l2, l1, F, B => if 0 ≤ l1 ∧ l1 < 3 then if r32 l4 then if r32 (F 13 l1 1) then (if (F 13 l1 1) ≤ l4 then rec17 (l3 + 1) l2 l1 F B else if r32 l3 then (if l3 ≤ 4 then f_M_between_0_69 rec7 rec17 (f_M_between_0_26 rec7 rec17 K n) K K (l4 + 1) l4 l3 l2 l1 F B else zbind (f_M_isAlone K l1 l2 l3 l4 F B) (fun r15 F15 B15 => if r32 r15 then (if r15 = 0 then f_M_between_0_127 rec7 rec17 (f_M_between_0_26 rec7 rec17 K n) K l4 l3 l2 l1 F15 B15 else zbind (f_M_fault_1 K l1 l2 l3 l4 (-1) F15 B15) (fun r18 F18 B18 => f_M_between_0_127 rec7 rec17 (f_M_between_0_26 rec7 rec17 K n) K l4 l3 l2 l1 F18 B18)) else none)) else none) else none else none else none
set_option maxHeartbeats 4000000 in
set_option maxRecDepth 100000 in
theorem b_M_between_0_26 {D : va_G} {ca : Nat → ClassId} {ad : Nat → Int → Nat → Nat} {L : List Nat} {aS vS : Nat → Nat} {A : Nat → Prop} {p : Program} {l : Launch} {e : Env} {s : State} {m : MethodId} {args : Array Value} {below : List Frame} {meth : Method} {c : Code} {K : Nat} {r : Int} {F9 : zF} {B9 : zB} (X : zX D ca L aS vS A p s m args meth c prog_15_method_186_code 6 (Option.none : Option Jvm.ClassFile.FieldType) "StaveHouseModel") {rec7 : Int → Int → zF → zB → zO} {rec17 : Int → Int → Int → zF → zB → zO} (hrec7 : ∀ {l2 : Int} {l1 : Int} {F : zF} {B : zB} {H : Heap} {locs : List Loc} {ls : Array Slot}, rec7 l2 l1 F B = some (r, F9, B9) → zH D ca ad lnM nM L F B A H → va_S A s.heap H locs → lv_has ls 6 [(2, .int (iI l2)), (1, .ref (ad 13 l1 0))] → W p l e ({ frames := 4, cells := 0, slots := 0, locals := 105 } : Room) s m args below meth c H locs 0 0 (MQ below (Q_M_between_0 D ca ad L r F9 B9 A) args s 0 0 A) (F0 m 7 ls [])) (hrec17 : ∀ {l3 : Int} {l2 : Int} {l1 : Int} {F : zF} {B : zB} {H : Heap} {locs : List Loc} {ls : Array Slot}, rec17 l3 l2 l1 F B = some (r, F9, B9) → zH D ca ad lnM nM L F B A H → va_S A s.heap H locs → lv_has ls 6 [(3, .int (iI l3)), (2, .int (iI l2)), (1, .ref (ad 13 l1 0))] → W p l e ({ frames := 4, cells := 0, slots := 0, locals := 105 } : Room) s m args below meth c H locs 0 0 (MQ below (Q_M_between_0 D ca ad L r F9 B9 A) args s 0 0 A) (F0 m 17 ls [])) : ∀ {n : Nat} {l4 : Int} {l3 : Int} {l2 : Int} {l1 : Int} {F : zF} {B : zB} {H : Heap} {locs : List Loc} {ls : Array Slot}, f_M_between_0_26 rec7 rec17 K n l4 l3 l2 l1 F B = some (r, F9, B9) → zH D ca ad lnM nM L F B A H → va_S A s.heap H locs → lv_has ls 6 [(4, .int (iI l4)), (3, .int (iI l3)), (2, .int (iI l2)), (1, .ref (ad 13 l1 0))] → W p l e ({ frames := 4, cells := 0, slots := 0, locals := 105 } : Room) s m args below meth c H locs 0 0 (MQ below (Q_M_between_0 D ca ad L r F9 B9 A) args s 0 0 A) (F0 m 26 ls []) := by
  obtain ⟨hx, hb, hr, hml, hown, hts, hlk, hK, hA, hL, hX⟩ := id X
  intro n
  induction n with
  | zero =>
    intros
    rename_i hf _ _ _
    cases hf
  | succ n ih =>
    intro l4 l3 l2 l1 F B H locs ls hf hZ hS hl
    replace hf : (if 0 ≤ l1 ∧ l1 < 3 then if r32 l4 then if r32 (F 13 l1 1) then (if (F 13 l1 1) ≤ l4 then rec17 (l3 + 1) l2 l1 F B else if r32 l3 then (if l3 ≤ 4 then f_M_between_0_69 rec7 rec17 (f_M_between_0_26 rec7 rec17 K n) K K (l4 + 1) l4 l3 l2 l1 F B else zbind (f_M_isAlone K l1 l2 l3 l4 F B) (fun r15 F15 B15 => if r32 r15 then (if r15 = 0 then f_M_between_0_127 rec7 rec17 (f_M_between_0_26 rec7 rec17 K n) K l4 l3 l2 l1 F15 B15 else zbind (f_M_fault_1 K l1 l2 l3 l4 (-1) F15 B15) (fun r18 F18 B18 => f_M_between_0_127 rec7 rec17 (f_M_between_0_26 rec7 rec17 K n) K l4 l3 l2 l1 F18 B18)) else none)) else none) else none else none else none) = some (r, F9, B9) := hf
    refine lv_iload hx hb (D_21 W_prog_15_method_186_code_0 26 rfl rfl) (lv_at hl 0 rfl) ?_
    refine lv_aload_n hx hb (D_43 W_prog_15_method_186_code_0 28 rfl rfl) rfl (lv_at hl 3 rfl) ?_
    obtain ⟨g9, hf⟩ := gif hf
    refine zget (ci := 13) (C := RX13) (T := TX13) (v := .int (iI (F 13 l1 1))) (k := 1) hx hb hts inW_13 hown hK hZ g9.1 g9.2 rfl (by decide) k_9_126 rfl (D_180 W_prog_15_method_186_code_0 29 rfl rfl rfl) ?_
    obtain ⟨g10, hf⟩ := gif hf
    obtain ⟨g11, hf⟩ := gif hf
    refine zge (tgt := 133) hx hb g10 g11 (D_162 W_prog_15_method_186_code_32 0 rfl rfl rfl) (by decide) (fun h12 => ?_) (fun h12 => ?_)
    · replace hf := gpos hf h12
      refine lv_iinc (v := iI (l3 + 1)) (lv' := [(3, .int (iI (l3 + 1))), (4, .int (iI l4)), (2, .int (iI l2)), (1, .ref (ad 13 l1 0))]) hx hb d_15_186_133 hl (k := 1) rfl (iI_add _ 1) (by decide) rfl (fun ls hl => ?_)
      refine lv_goto (tgt := 17) hx hb (D_167 W_prog_15_method_186_code_128 8 rfl rfl rfl) (by decide) ?_
      exact hrec17 hf hZ hS (lv_sub hl [0, 2, 3] rfl)
    · replace hf := gneg hf h12
      refine lv_iload_n hx hb (D_29 W_prog_15_method_186_code_32 3 rfl rfl) rfl (lv_at hl 1 rfl) ?_
      refine lv_iconst (v := iI 4) hx hb (D_7 W_prog_15_method_186_code_32 4 rfl rfl) rfl ?_
      obtain ⟨g13, hf⟩ := gif hf
      refine zle (tgt := 63) hx hb g13 (by decide) (D_164 W_prog_15_method_186_code_32 5 rfl rfl rfl) (by decide) (fun h14 => ?_) (fun h14 => ?_)
      · replace hf := gpos hf h14
        refine lv_iload hx hb (D_21 W_prog_15_method_186_code_32 31 rfl rfl) (lv_at hl 0 rfl) ?_
        refine lv_iconst (v := iI 1) hx hb (D_4 W_prog_15_method_186_code_64 1 rfl rfl) rfl ?_
        refine zadd hx hb (D_96 W_prog_15_method_186_code_64 2 rfl rfl) ?_
        refine lv_istore (lv' := [(5, .int (iI (l4 + 1))), (4, .int (iI l4)), (3, .int (iI l3)), (2, .int (iI l2)), (1, .ref (ad 13 l1 0))]) hx hb (D_54 W_prog_15_method_186_code_64 3 rfl rfl) hl (by decide) rfl (fun ls hl => ?_)
        exact b_M_between_0_69 X hrec7 hrec17 ih hf hZ hS (lv_sub hl [0, 1, 2, 3, 4] rfl)
      · replace hf := gneg hf h14
        refine lv_aload_n hx hb (D_43 W_prog_15_method_186_code_32 8 rfl rfl) rfl (lv_at hl 3 rfl) ?_
        refine lv_iload_n hx hb (D_28 W_prog_15_method_186_code_32 9 rfl rfl) rfl (lv_at hl 2 rfl) ?_
        refine lv_iload_n hx hb (D_29 W_prog_15_method_186_code_32 10 rfl rfl) rfl (lv_at hl 1 rfl) ?_
        refine lv_iload hx hb (D_21 W_prog_15_method_186_code_32 11 rfl rfl) (lv_at hl 0 rfl) ?_
        obtain ⟨r15, F15, B15, hc15, hf⟩ := gbind hf
        refine va_calli (va_runS (As := [.ref (ad 13 l1 0), .int (iI l2), .int (iI l3), .int (iI l4)]) (rest := []) ⟨hx, hb, hml, hown, hts⟩ (c_M_isAlone (l := l) hc15) (va_cwS 4 hts (gdS k_15_112 k_15_113 k_1_9 k_15_114) rfl rfl rfl (by decide +kernel) ⟨Nat.le_of_ble_eq_true rfl, Nat.le_of_ble_eq_true rfl⟩) (zPS X hZ hS [.ref (ad 13 l1 0), .int (iI l2), .int (iI l3), .int (iI l4)]) rfl rfl hl.1 rfl (lv_room (Nat.le_of_ble_eq_true rfl)) (D_184 W_prog_15_method_186_code_32 13 rfl rfl rfl) ⟨Nat.le_of_ble_eq_true rfl, Nat.le_of_ble_eq_true rfl⟩) hS (fun q _ h => zAin X hS q h) (zAin X hS) (fun p15 u15 t15 H15 locs15 ht15 hv15 hw15 hB15 hz15 hk15 hS15 => ?_)
        have hZ15 := zBack X ht15 hB15
        subst hw15
        obtain ⟨g16, hf⟩ := gif hf
        refine z0eq (tgt := 127) hx hb g16 (D_153 W_prog_15_method_186_code_32 16 rfl rfl rfl) (by decide) (fun h17 => ?_) (fun h17 => ?_)
        · replace hf := gpos hf h17
          exact b_M_between_0_127 X hrec7 hrec17 ih hf hZ15 hS15 (lv_sub hl [0, 1, 2, 3] rfl)
        · replace hf := gneg hf h17
          refine lv_aload_n hx hb (D_43 W_prog_15_method_186_code_32 19 rfl rfl) rfl (lv_at hl 3 rfl) ?_
          refine lv_iload_n hx hb (D_28 W_prog_15_method_186_code_32 20 rfl rfl) rfl (lv_at hl 2 rfl) ?_
          refine lv_iload_n hx hb (D_29 W_prog_15_method_186_code_32 21 rfl rfl) rfl (lv_at hl 1 rfl) ?_
          refine lv_iload hx hb (D_21 W_prog_15_method_186_code_32 22 rfl rfl) (lv_at hl 0 rfl) ?_
          refine lv_iconst (v := iI (-1)) hx hb (D_2 W_prog_15_method_186_code_32 24 rfl rfl) rfl ?_
          obtain ⟨r18, F18, B18, hc18, hf⟩ := gbind hf
          refine va_callv (va_runS (As := [.ref (ad 13 l1 0), .int (iI l2), .int (iI l3), .int (iI l4), .int (iI (-1))]) (rest := []) ⟨hx, hb, hml, hown, hts⟩ (c_M_fault_1 (l := l) hc18) (va_cwS 5 hts (gdS k_15_127 k_15_128 k_1_9 k_15_129) rfl rfl rfl (by decide +kernel) ⟨Nat.le_of_ble_eq_true rfl, Nat.le_of_ble_eq_true rfl⟩) (zPS X hZ15 hS15 [.ref (ad 13 l1 0), .int (iI l2), .int (iI l3), .int (iI l4), .int (iI (-1))]) rfl rfl hl.1 rfl (lv_room (Nat.le_of_ble_eq_true rfl)) (D_184 W_prog_15_method_186_code_32 25 rfl rfl rfl) ⟨Nat.le_of_ble_eq_true rfl, Nat.le_of_ble_eq_true rfl⟩) hS15 (fun q _ h => zAin X hS15 q h) (zAin X hS15) (fun u18 t18 H18 locs18 ht18 hv18 hw18 hB18 hz18 hk18 hS18 => ?_)
          have hZ18 := zBack X ht18 hB18
          refine lv_goto (tgt := 127) hx hb (D_167 W_prog_15_method_186_code_32 28 rfl rfl rfl) (by decide) ?_
          exact b_M_between_0_127 X hrec7 hrec17 ih hf hZ18 hS18 (lv_sub hl [0, 1, 2, 3] rfl)

def f_M_between_0_17 (rec7 : Int → Int → zF → zB → zO) (K : Nat) : Nat → Int → Int → Int → zF → zB → zO
  | 0, _, _, _, _, _ => none
  | n + 1, l3, l2, l1, F, B => if r32 l3 then (if 7 ≤ l3 then rec7 (l2 + 1) l1 F B else f_M_between_0_26 rec7 (f_M_between_0_17 rec7 K n) K K 0 l3 l2 l1 F B) else none
set_option maxHeartbeats 4000000 in
set_option maxRecDepth 100000 in
theorem b_M_between_0_17 {D : va_G} {ca : Nat → ClassId} {ad : Nat → Int → Nat → Nat} {L : List Nat} {aS vS : Nat → Nat} {A : Nat → Prop} {p : Program} {l : Launch} {e : Env} {s : State} {m : MethodId} {args : Array Value} {below : List Frame} {meth : Method} {c : Code} {K : Nat} {r : Int} {F9 : zF} {B9 : zB} (X : zX D ca L aS vS A p s m args meth c prog_15_method_186_code 6 (Option.none : Option Jvm.ClassFile.FieldType) "StaveHouseModel") {rec7 : Int → Int → zF → zB → zO} (hrec7 : ∀ {l2 : Int} {l1 : Int} {F : zF} {B : zB} {H : Heap} {locs : List Loc} {ls : Array Slot}, rec7 l2 l1 F B = some (r, F9, B9) → zH D ca ad lnM nM L F B A H → va_S A s.heap H locs → lv_has ls 6 [(2, .int (iI l2)), (1, .ref (ad 13 l1 0))] → W p l e ({ frames := 4, cells := 0, slots := 0, locals := 105 } : Room) s m args below meth c H locs 0 0 (MQ below (Q_M_between_0 D ca ad L r F9 B9 A) args s 0 0 A) (F0 m 7 ls [])) : ∀ {n : Nat} {l3 : Int} {l2 : Int} {l1 : Int} {F : zF} {B : zB} {H : Heap} {locs : List Loc} {ls : Array Slot}, f_M_between_0_17 rec7 K n l3 l2 l1 F B = some (r, F9, B9) → zH D ca ad lnM nM L F B A H → va_S A s.heap H locs → lv_has ls 6 [(3, .int (iI l3)), (2, .int (iI l2)), (1, .ref (ad 13 l1 0))] → W p l e ({ frames := 4, cells := 0, slots := 0, locals := 105 } : Room) s m args below meth c H locs 0 0 (MQ below (Q_M_between_0 D ca ad L r F9 B9 A) args s 0 0 A) (F0 m 17 ls []) := by
  obtain ⟨hx, hb, hr, hml, hown, hts, hlk, hK, hA, hL, hX⟩ := id X
  intro n
  induction n with
  | zero =>
    intros
    rename_i hf _ _ _
    cases hf
  | succ n ih =>
    intro l3 l2 l1 F B H locs ls hf hZ hS hl
    replace hf : (if r32 l3 then (if 7 ≤ l3 then rec7 (l2 + 1) l1 F B else f_M_between_0_26 rec7 (f_M_between_0_17 rec7 K n) K K 0 l3 l2 l1 F B) else none) = some (r, F9, B9) := hf
    refine lv_iload_n hx hb (D_29 W_prog_15_method_186_code_0 17 rfl rfl) rfl (lv_at hl 0 rfl) ?_
    refine lv_bipush (v := iI 7) hx hb (D_16 W_prog_15_method_186_code_0 18 rfl rfl rfl) (by decide) ?_
    obtain ⟨g7, hf⟩ := gif hf
    refine zge (tgt := 139) hx hb g7 (by decide) (D_162 W_prog_15_method_186_code_0 20 rfl rfl rfl) (by decide) (fun h8 => ?_) (fun h8 => ?_)
    · replace hf := gpos hf h8
      refine lv_iinc (v := iI (l2 + 1)) (lv' := [(2, .int (iI (l2 + 1))), (3, .int (iI l3)), (1, .ref (ad 13 l1 0))]) hx hb d_15_186_139 hl (k := 1) rfl (iI_add _ 1) (by decide) rfl (fun ls hl => ?_)
      refine lv_goto (tgt := 7) hx hb (D_167 W_prog_15_method_186_code_128 14 rfl rfl rfl) (by decide) ?_
      exact hrec7 hf hZ hS (lv_sub hl [0, 2] rfl)
    · replace hf := gneg hf h8
      refine lv_iconst (v := iI 0) hx hb (D_3 W_prog_15_method_186_code_0 23 rfl rfl) rfl ?_
      refine lv_istore (lv' := [(4, .int (iI 0)), (3, .int (iI l3)), (2, .int (iI l2)), (1, .ref (ad 13 l1 0))]) hx hb (D_54 W_prog_15_method_186_code_0 24 rfl rfl) hl (by decide) rfl (fun ls hl => ?_)
      exact b_M_between_0_26 X hrec7 ih hf hZ hS (lv_sub hl [0, 1, 2, 3] rfl)

def f_M_between_0_7 (K : Nat) : Nat → Int → Int → zF → zB → zO
  | 0, _, _, _, _ => none
  | n + 1, l2, l1, F, B => if 0 ≤ l1 ∧ l1 < 3 then if r32 l2 then if r32 (F 13 l1 72) then (if (F 13 l1 72) ≤ l2 then some (0, F, B) else f_M_between_0_17 (f_M_between_0_7 K n) K K 1 l2 l1 F B) else none else none else none
set_option maxHeartbeats 4000000 in
set_option maxRecDepth 100000 in
theorem b_M_between_0_7 {D : va_G} {ca : Nat → ClassId} {ad : Nat → Int → Nat → Nat} {L : List Nat} {aS vS : Nat → Nat} {A : Nat → Prop} {p : Program} {l : Launch} {e : Env} {s : State} {m : MethodId} {args : Array Value} {below : List Frame} {meth : Method} {c : Code} {K : Nat} {r : Int} {F9 : zF} {B9 : zB} (X : zX D ca L aS vS A p s m args meth c prog_15_method_186_code 6 (Option.none : Option Jvm.ClassFile.FieldType) "StaveHouseModel") : ∀ {n : Nat} {l2 : Int} {l1 : Int} {F : zF} {B : zB} {H : Heap} {locs : List Loc} {ls : Array Slot}, f_M_between_0_7 K n l2 l1 F B = some (r, F9, B9) → zH D ca ad lnM nM L F B A H → va_S A s.heap H locs → lv_has ls 6 [(2, .int (iI l2)), (1, .ref (ad 13 l1 0))] → W p l e ({ frames := 4, cells := 0, slots := 0, locals := 105 } : Room) s m args below meth c H locs 0 0 (MQ below (Q_M_between_0 D ca ad L r F9 B9 A) args s 0 0 A) (F0 m 7 ls []) := by
  obtain ⟨hx, hb, hr, hml, hown, hts, hlk, hK, hA, hL, hX⟩ := id X
  intro n
  induction n with
  | zero =>
    intros
    rename_i hf _ _ _
    cases hf
  | succ n ih =>
    intro l2 l1 F B H locs ls hf hZ hS hl
    replace hf : (if 0 ≤ l1 ∧ l1 < 3 then if r32 l2 then if r32 (F 13 l1 72) then (if (F 13 l1 72) ≤ l2 then some (0, F, B) else f_M_between_0_17 (f_M_between_0_7 K n) K K 1 l2 l1 F B) else none else none else none) = some (r, F9, B9) := hf
    refine lv_iload_n hx hb (D_28 W_prog_15_method_186_code_0 7 rfl rfl) rfl (lv_at hl 0 rfl) ?_
    refine lv_aload_n hx hb (D_43 W_prog_15_method_186_code_0 8 rfl rfl) rfl (lv_at hl 1 rfl) ?_
    obtain ⟨g3, hf⟩ := gif hf
    refine zget (ci := 13) (C := RX13) (T := TX13) (v := .int (iI (F 13 l1 72))) (k := 72) hx hb hts inW_13 hown hK hZ g3.1 g3.2 rfl (by decide) k_10_11 rfl (D_180 W_prog_15_method_186_code_0 9 rfl rfl rfl) ?_
    obtain ⟨g4, hf⟩ := gif hf
    obtain ⟨g5, hf⟩ := gif hf
    refine zge (tgt := 145) hx hb g4 g5 (D_162 W_prog_15_method_186_code_0 12 rfl rfl rfl) (by decide) (fun h6 => ?_) (fun h6 => ?_)
    · replace hf := gpos hf h6
      cases hf
      exact W.vret hx hb hr (fun t ht hW => ⟨⟨(), rfl, trivial, by rw [ht]; exact hZ, va_K.moved hW.alike hK⟩, hS.F ht⟩) hS.2.2 (D_177 W_prog_15_method_186_code_128 17 rfl rfl) hlk
    · replace hf := gneg hf h6
      refine lv_iconst (v := iI 1) hx hb (D_4 W_prog_15_method_186_code_0 15 rfl rfl) rfl ?_
      refine lv_istore_n (lv' := [(3, .int (iI 1)), (2, .int (iI l2)), (1, .ref (ad 13 l1 0))]) hx hb (D_62 W_prog_15_method_186_code_0 16 rfl rfl) rfl hl (by decide) rfl (fun ls hl => ?_)
      exact b_M_between_0_17 X ih hf hZ hS (lv_sub hl [0, 1, 2] rfl)

def f_M_between_0 (K : Nat) (l1 : Int) (F : zF) (B : zB) : zO := if 0 ≤ l1 ∧ l1 < 3 then f_M_between_0_7 K K 1 l1 (zup3 F 13 l1 76 0) B else none
set_option maxHeartbeats 4000000 in
set_option maxRecDepth 100000 in
theorem c_M_between_0 {l : Launch} {D : va_G} {ca : Nat → ClassId} {ad : Nat → Int → Nat → Nat} {L : List Nat} {aS vS : Nat → Nat} {sz K : Nat}  {l1 : Int} {F F9 : zF} {B B9 : zB} {r : Int} (hf : f_M_between_0 K l1 F B = some (r, F9, B9)) : Met l ({ cls := "StaveHouseModel", name := "between", desc := "(LStaveHouseModel$Piece;)V" } : Jvm.MethodName) (Cond.code ({ cls := "StaveHouseModel", name := "between", desc := "(LStaveHouseModel$Piece;)V" } : Jvm.MethodName) prog_15_method_186_code 6 (Option.none : Option Jvm.ClassFile.FieldType) :: wAll) ({ frames := 4, cells := 0, slots := 0, locals := 105 } : Room) (va_Pc [.ref (ad 14 0 0), .ref (ad 13 l1 0)] (zPre D ca ad lnM nM L aS vS F B sz)) (Q_M_between_0 D ca ad L r F9 B9 (zA L sz)) 0 0 (zA L sz) := by
  refine zMet (Qc := Q_M_between_0 D ca ad L r F9 B9) (lv := [(0, .ref (ad 14 0 0)), (1, .ref (ad 13 l1 0))]) (by decide) (Nat.le_of_ble_eq_true rfl) rfl (fun A p e s m below meth c ls X hZ hS hl => ?_)
  obtain ⟨hx, hb, hr, hml, hown, hts, hlk, hK, hA, hL, hX⟩ := id X
  replace hf : (if 0 ≤ l1 ∧ l1 < 3 then f_M_between_0_7 K K 1 l1 (zup3 F 13 l1 76 0) B else none) = some (r, F9, B9) := hf
  refine lv_aload_n hx hb (D_43 W_prog_15_method_186_code_0 0 rfl rfl) rfl (lv_at hl 1 rfl) ?_
  refine lv_iconst (v := iI 0) hx hb (D_3 W_prog_15_method_186_code_0 1 rfl rfl) rfl ?_
  obtain ⟨g1, hf⟩ := gif hf
  refine zput (ci := 13) (C := RX13) (T := TX13) (k := 76) (v := 0) (w := .int (iI 0)) hx hb hts inW_13 tyX13 tyX13_ok nmX13 hown hK hZ hS g1.1 g1.2 rfl (by decide) k_10_18 rfl (fun G h => congrArg (fun q => Value.int (iI q)) h) rfl rfl (zno (by decide)) (D_181 W_prog_15_method_186_code_0 2 rfl rfl rfl) (fun H2 locs2 hZ2 hS2 => ?_)
  refine lv_iconst (v := iI 1) hx hb (D_4 W_prog_15_method_186_code_0 5 rfl rfl) rfl ?_
  refine lv_istore_n (lv' := [(2, .int (iI 1)), (0, .ref (ad 14 0 0)), (1, .ref (ad 13 l1 0))]) hx hb (D_61 W_prog_15_method_186_code_0 6 rfl rfl) rfl hl (by decide) rfl (fun ls hl => ?_)
  exact b_M_between_0_7 X hf hZ2 hS2 (lv_sub hl [0, 2] rfl)

abbrev Q_M_gather (D : va_G) (ca : Nat → ClassId) (ad : Nat → Int → Nat → Nat) (L : List Nat) (r : Int) (F : zF) (B : zB) (A : Nat → Prop) : Array Value → State → Outcome → State → Prop := va_Qi (S := Unit) (fun p _ => p = iI r) (fun _ => zPo D ca ad lnM nM L F B A) A
def f_M_gather_177 (rec7 : Int → Int → zF → zB → zO) (rec17 : Int → Int → Int → zF → zB → zO) (rec39 : Int → Int → Int → Int → Int → zF → zB → zO) (K : Nat) (l5 : Int) (l4 : Int) (l3 : Int) (l2 : Int) (l1 : Int) (F : zF) (B : zB) : zO := rec39 (l5 + 1) l4 l3 l2 l1 F B
set_option maxHeartbeats 4000000 in
set_option maxRecDepth 100000 in
theorem b_M_gather_177 {D : va_G} {ca : Nat → ClassId} {ad : Nat → Int → Nat → Nat} {L : List Nat} {aS vS : Nat → Nat} {A : Nat → Prop} {p : Program} {l : Launch} {e : Env} {s : State} {m : MethodId} {args : Array Value} {below : List Frame} {meth : Method} {c : Code} {K : Nat} {r : Int} {F9 : zF} {B9 : zB} (X : zX D ca L aS vS A p s m args meth c prog_15_method_116_code 9 (Option.some Jvm.ClassFile.FieldType.int) "StaveHouseModel") {rec7 : Int → Int → zF → zB → zO} {rec17 : Int → Int → Int → zF → zB → zO} {rec39 : Int → Int → Int → Int → Int → zF → zB → zO} (hrec7 : ∀ {l2 : Int} {l1 : Int} {F : zF} {B : zB} {H : Heap} {locs : List Loc} {ls : Array Slot}, rec7 l2 l1 F B = some (r, F9, B9) → zH D ca ad lnM nM L F B A H → va_S A s.heap H locs → lv_has ls 9 [(2, .int (iI l2)), (0, .ref (ad 14 0 0)), (1, .ref (ad 13 l1 0))] → W p l e ({ frames := 5, cells := 0, slots := 0, locals := 140 } : Room) s m args below meth c H locs 0 0 (MQ below (Q_M_gather D ca ad L r F9 B9 A) args s 0 0 A) (F0 m 7 ls [])) (hrec17 : ∀ {l3 : Int} {l2 : Int} {l1 : Int} {F : zF} {B : zB} {H : Heap} {locs : List Loc} {ls : Array Slot}, rec17 l3 l2 l1 F B = some (r, F9, B9) → zH D ca ad lnM nM L F B A H → va_S A s.heap H locs → lv_has ls 9 [(3, .int (iI l3)), (2, .int (iI l2)), (0, .ref (ad 14 0 0)), (1, .ref (ad 13 l1 0))] → W p l e ({ frames := 5, cells := 0, slots := 0, locals := 140 } : Room) s m args below meth c H locs 0 0 (MQ below (Q_M_gather D ca ad L r F9 B9 A) args s 0 0 A) (F0 m 17 ls [])) (hrec39 : ∀ {l5 : Int} {l4 : Int} {l3 : Int} {l2 : Int} {l1 : Int} {F : zF} {B : zB} {H : Heap} {locs : List Loc} {ls : Array Slot}, rec39 l5 l4 l3 l2 l1 F B = some (r, F9, B9) → zH D ca ad lnM nM L F B A H → va_S A s.heap H locs → lv_has ls 9 [(5, .int (iI l5)), (4, .int (iI l4)), (3, .int (iI l3)), (2, .int (iI l2)), (0, .ref (ad 14 0 0)), (1, .ref (ad 13 l1 0))] → W p l e ({ frames := 5, cells := 0, slots := 0, locals := 140 } : Room) s m args below meth c H locs 0 0 (MQ below (Q_M_gather D ca ad L r F9 B9 A) args s 0 0 A) (F0 m 39 ls [])) {l5 : Int} {l4 : Int} {l3 : Int} {l2 : Int} {l1 : Int} {F : zF} {B : zB} {H : Heap} {locs : List Loc} {ls : Array Slot} (hf : f_M_gather_177 rec7 rec17 rec39 K l5 l4 l3 l2 l1 F B = some (r, F9, B9)) (hZ : zH D ca ad lnM nM L F B A H) (hS : va_S A s.heap H locs) (hl : lv_has ls 9 [(5, .int (iI l5)), (4, .int (iI l4)), (3, .int (iI l3)), (2, .int (iI l2)), (0, .ref (ad 14 0 0)), (1, .ref (ad 13 l1 0))]) : W p l e ({ frames := 5, cells := 0, slots := 0, locals := 140 } : Room) s m args below meth c H locs 0 0 (MQ below (Q_M_gather D ca ad L r F9 B9 A) args s 0 0 A) (F0 m 177 ls []) := by
  obtain ⟨hx, hb, hr, hml, hown, hts, hlk, hK, hA, hL, hX⟩ := id X
  replace hf : (rec39 (l5 + 1) l4 l3 l2 l1 F B) = some (r, F9, B9) := hf
  refine lv_iinc (v := iI (l5 + 1)) (lv' := [(5, .int (iI (l5 + 1))), (4, .int (iI l4)), (3, .int (iI l3)), (2, .int (iI l2)), (0, .ref (ad 14 0 0)), (1, .ref (ad 13 l1 0))]) hx hb d_15_116_177 hl (k := 0) rfl (iI_add _ 1) (by decide) rfl (fun ls hl => ?_)
  refine lv_goto (tgt := 39) hx hb (D_167 W_prog_15_method_116_code_160 20 rfl rfl rfl) (by decide) ?_
  exact hrec39 hf hZ hS (lv_sub hl [0, 1, 2, 3, 4, 5] rfl)

def f_M_gather_145 (rec7 : Int → Int → zF → zB → zO) (rec17 : Int → Int → Int → zF → zB → zO) (rec39 : Int → Int → Int → Int → Int → zF → zB → zO) (K : Nat) (l7 : Int) (l6 : Int) (l5 : Int) (l4 : Int) (l3 : Int) (l2 : Int) (l1 : Int) (s0 : Int) (F : zF) (B : zB) : zO := if r32 s0 then (if s0 = 0 then zbind (f_M_plain K l1 l2 l3 l6 l7 F B) (fun r34 F34 B34 => f_M_gather_177 rec7 rec17 rec39 K l5 l4 l3 l2 l1 F34 B34) else zbind (f_M_trill K l1 l2 l3 l6 l7 F B) (fun r35 F35 B35 => f_M_gather_177 rec7 rec17 rec39 K l5 l4 l3 l2 l1 F35 B35)) else none
set_option maxHeartbeats 4000000 in
set_option maxRecDepth 100000 in
theorem b_M_gather_145 {D : va_G} {ca : Nat → ClassId} {ad : Nat → Int → Nat → Nat} {L : List Nat} {aS vS : Nat → Nat} {A : Nat → Prop} {p : Program} {l : Launch} {e : Env} {s : State} {m : MethodId} {args : Array Value} {below : List Frame} {meth : Method} {c : Code} {K : Nat} {r : Int} {F9 : zF} {B9 : zB} (X : zX D ca L aS vS A p s m args meth c prog_15_method_116_code 9 (Option.some Jvm.ClassFile.FieldType.int) "StaveHouseModel") {rec7 : Int → Int → zF → zB → zO} {rec17 : Int → Int → Int → zF → zB → zO} {rec39 : Int → Int → Int → Int → Int → zF → zB → zO} (hrec7 : ∀ {l2 : Int} {l1 : Int} {F : zF} {B : zB} {H : Heap} {locs : List Loc} {ls : Array Slot}, rec7 l2 l1 F B = some (r, F9, B9) → zH D ca ad lnM nM L F B A H → va_S A s.heap H locs → lv_has ls 9 [(2, .int (iI l2)), (0, .ref (ad 14 0 0)), (1, .ref (ad 13 l1 0))] → W p l e ({ frames := 5, cells := 0, slots := 0, locals := 140 } : Room) s m args below meth c H locs 0 0 (MQ below (Q_M_gather D ca ad L r F9 B9 A) args s 0 0 A) (F0 m 7 ls [])) (hrec17 : ∀ {l3 : Int} {l2 : Int} {l1 : Int} {F : zF} {B : zB} {H : Heap} {locs : List Loc} {ls : Array Slot}, rec17 l3 l2 l1 F B = some (r, F9, B9) → zH D ca ad lnM nM L F B A H → va_S A s.heap H locs → lv_has ls 9 [(3, .int (iI l3)), (2, .int (iI l2)), (0, .ref (ad 14 0 0)), (1, .ref (ad 13 l1 0))] → W p l e ({ frames := 5, cells := 0, slots := 0, locals := 140 } : Room) s m args below meth c H locs 0 0 (MQ below (Q_M_gather D ca ad L r F9 B9 A) args s 0 0 A) (F0 m 17 ls [])) (hrec39 : ∀ {l5 : Int} {l4 : Int} {l3 : Int} {l2 : Int} {l1 : Int} {F : zF} {B : zB} {H : Heap} {locs : List Loc} {ls : Array Slot}, rec39 l5 l4 l3 l2 l1 F B = some (r, F9, B9) → zH D ca ad lnM nM L F B A H → va_S A s.heap H locs → lv_has ls 9 [(5, .int (iI l5)), (4, .int (iI l4)), (3, .int (iI l3)), (2, .int (iI l2)), (0, .ref (ad 14 0 0)), (1, .ref (ad 13 l1 0))] → W p l e ({ frames := 5, cells := 0, slots := 0, locals := 140 } : Room) s m args below meth c H locs 0 0 (MQ below (Q_M_gather D ca ad L r F9 B9 A) args s 0 0 A) (F0 m 39 ls [])) {l7 : Int} {l6 : Int} {l5 : Int} {l4 : Int} {l3 : Int} {l2 : Int} {l1 : Int} {s0 : Int} {F : zF} {B : zB} {H : Heap} {locs : List Loc} {ls : Array Slot} (hf : f_M_gather_145 rec7 rec17 rec39 K l7 l6 l5 l4 l3 l2 l1 s0 F B = some (r, F9, B9)) (hZ : zH D ca ad lnM nM L F B A H) (hS : va_S A s.heap H locs) (hl : lv_has ls 9 [(7, .int (iI l7)), (6, .int (iI l6)), (5, .int (iI l5)), (4, .int (iI l4)), (3, .int (iI l3)), (2, .int (iI l2)), (0, .ref (ad 14 0 0)), (1, .ref (ad 13 l1 0))]) : W p l e ({ frames := 5, cells := 0, slots := 0, locals := 140 } : Room) s m args below meth c H locs 0 0 (MQ below (Q_M_gather D ca ad L r F9 B9 A) args s 0 0 A) (F0 m 145 ls [.int (iI s0)]) := by
  obtain ⟨hx, hb, hr, hml, hown, hts, hlk, hK, hA, hL, hX⟩ := id X
  replace hf : (if r32 s0 then (if s0 = 0 then zbind (f_M_plain K l1 l2 l3 l6 l7 F B) (fun r34 F34 B34 => f_M_gather_177 rec7 rec17 rec39 K l5 l4 l3 l2 l1 F34 B34) else zbind (f_M_trill K l1 l2 l3 l6 l7 F B) (fun r35 F35 B35 => f_M_gather_177 rec7 rec17 rec39 K l5 l4 l3 l2 l1 F35 B35)) else none) = some (r, F9, B9) := hf
  refine lv_istore (lv' := [(8, .int (iI s0)), (7, .int (iI l7)), (6, .int (iI l6)), (5, .int (iI l5)), (4, .int (iI l4)), (3, .int (iI l3)), (2, .int (iI l2)), (0, .ref (ad 14 0 0)), (1, .ref (ad 13 l1 0))]) hx hb (D_54 W_prog_15_method_116_code_128 17 rfl rfl) hl (by decide) rfl (fun ls hl => ?_)
  refine lv_iload hx hb (D_21 W_prog_15_method_116_code_128 19 rfl rfl) (lv_at hl 0 rfl) ?_
  obtain ⟨g31, hf⟩ := gif hf
  refine z0eq (tgt := 166) hx hb g31 (D_153 W_prog_15_method_116_code_128 21 rfl rfl rfl) (by decide) (fun h33 => ?_) (fun h33 => ?_)
  · replace hf := gpos hf h33
    refine lv_aload_n hx hb (D_42 W_prog_15_method_116_code_160 6 rfl rfl) rfl (lv_at hl 7 rfl) ?_
    refine lv_aload_n hx hb (D_43 W_prog_15_method_116_code_160 7 rfl rfl) rfl (lv_at hl 8 rfl) ?_
    refine lv_iload_n hx hb (D_28 W_prog_15_method_116_code_160 8 rfl rfl) rfl (lv_at hl 6 rfl) ?_
    refine lv_iload_n hx hb (D_29 W_prog_15_method_116_code_160 9 rfl rfl) rfl (lv_at hl 5 rfl) ?_
    refine lv_iload hx hb (D_21 W_prog_15_method_116_code_160 10 rfl rfl) (lv_at hl 2 rfl) ?_
    refine lv_iload hx hb (D_21 W_prog_15_method_116_code_160 12 rfl rfl) (lv_at hl 1 rfl) ?_
    obtain ⟨r34, F34, B34, hc34, hf⟩ := gbind hf
    refine va_callv (va_runV (As := [.ref (ad 13 l1 0), .int (iI l2), .int (iI l3), .int (iI l6), .int (iI l7)]) (rest := []) ⟨hx, hb, hml, hown, hts⟩ (c_M_plain (l := l) hc34) (cwV 5 hts (gdV k_12_178 k_12_180 ks_139 k_1_9 k_12_181) rfl rfl rfl (by decide +kernel) ⟨Nat.le_of_ble_eq_true rfl, Nat.le_of_ble_eq_true rfl⟩) (zPV X hZ hS (ci := 14) (by decide) (by decide) (r := (RX14, TX14, 107)) rfl [.ref (ad 13 l1 0), .int (iI l2), .int (iI l3), .int (iI l6), .int (iI l7)]) rfl rfl hl.1 rfl (lv_room (Nat.le_of_ble_eq_true rfl)) (D_182 W_prog_15_method_116_code_160 14 rfl rfl rfl) ⟨Nat.le_of_ble_eq_true rfl, Nat.le_of_ble_eq_true rfl⟩) hS (fun q _ h => zAin X hS q h) (zAin X hS) (fun u34 t34 H34 locs34 ht34 hv34 hw34 hB34 hz34 hk34 hS34 => ?_)
    have hZ34 := zBack X ht34 hB34
    exact b_M_gather_177 X hrec7 hrec17 hrec39 hf hZ34 hS34 (lv_sub hl [3, 4, 5, 6, 7, 8] rfl)
  · replace hf := gneg hf h33
    refine lv_aload_n hx hb (D_42 W_prog_15_method_116_code_128 24 rfl rfl) rfl (lv_at hl 7 rfl) ?_
    refine lv_aload_n hx hb (D_43 W_prog_15_method_116_code_128 25 rfl rfl) rfl (lv_at hl 8 rfl) ?_
    refine lv_iload_n hx hb (D_28 W_prog_15_method_116_code_128 26 rfl rfl) rfl (lv_at hl 6 rfl) ?_
    refine lv_iload_n hx hb (D_29 W_prog_15_method_116_code_128 27 rfl rfl) rfl (lv_at hl 5 rfl) ?_
    refine lv_iload hx hb (D_21 W_prog_15_method_116_code_128 28 rfl rfl) (lv_at hl 2 rfl) ?_
    refine lv_iload hx hb (D_21 W_prog_15_method_116_code_128 30 rfl rfl) (lv_at hl 1 rfl) ?_
    obtain ⟨r35, F35, B35, hc35, hf⟩ := gbind hf
    refine va_callv (va_runV (As := [.ref (ad 13 l1 0), .int (iI l2), .int (iI l3), .int (iI l6), .int (iI l7)]) (rest := []) ⟨hx, hb, hml, hown, hts⟩ (c_M_trill (l := l) hc35) (cwV 5 hts (gdV k_12_135 k_12_137 ks_133 k_1_9 k_12_138) rfl rfl rfl (by decide +kernel) ⟨Nat.le_of_ble_eq_true rfl, Nat.le_of_ble_eq_true rfl⟩) (zPV X hZ hS (ci := 14) (by decide) (by decide) (r := (RX14, TX14, 107)) rfl [.ref (ad 13 l1 0), .int (iI l2), .int (iI l3), .int (iI l6), .int (iI l7)]) rfl rfl hl.1 rfl (lv_room (Nat.le_of_ble_eq_true rfl)) (D_182 W_prog_15_method_116_code_160 0 rfl rfl rfl) ⟨Nat.le_of_ble_eq_true rfl, Nat.le_of_ble_eq_true rfl⟩) hS (fun q _ h => zAin X hS q h) (zAin X hS) (fun u35 t35 H35 locs35 ht35 hv35 hw35 hB35 hz35 hk35 hS35 => ?_)
    have hZ35 := zBack X ht35 hB35
    refine lv_goto (tgt := 177) hx hb (D_167 W_prog_15_method_116_code_160 3 rfl rfl rfl) (by decide) ?_
    exact b_M_gather_177 X hrec7 hrec17 hrec39 hf hZ35 hS35 (lv_sub hl [3, 4, 5, 6, 7, 8] rfl)

def f_M_gather_144 (rec7 : Int → Int → zF → zB → zO) (rec17 : Int → Int → Int → zF → zB → zO) (rec39 : Int → Int → Int → Int → Int → zF → zB → zO) (K : Nat) (l7 : Int) (l6 : Int) (l5 : Int) (l4 : Int) (l3 : Int) (l2 : Int) (l1 : Int) (F : zF) (B : zB) : zO := f_M_gather_145 rec7 rec17 rec39 K l7 l6 l5 l4 l3 l2 l1 0 F B
set_option maxHeartbeats 4000000 in
set_option maxRecDepth 100000 in
theorem b_M_gather_144 {D : va_G} {ca : Nat → ClassId} {ad : Nat → Int → Nat → Nat} {L : List Nat} {aS vS : Nat → Nat} {A : Nat → Prop} {p : Program} {l : Launch} {e : Env} {s : State} {m : MethodId} {args : Array Value} {below : List Frame} {meth : Method} {c : Code} {K : Nat} {r : Int} {F9 : zF} {B9 : zB} (X : zX D ca L aS vS A p s m args meth c prog_15_method_116_code 9 (Option.some Jvm.ClassFile.FieldType.int) "StaveHouseModel") {rec7 : Int → Int → zF → zB → zO} {rec17 : Int → Int → Int → zF → zB → zO} {rec39 : Int → Int → Int → Int → Int → zF → zB → zO} (hrec7 : ∀ {l2 : Int} {l1 : Int} {F : zF} {B : zB} {H : Heap} {locs : List Loc} {ls : Array Slot}, rec7 l2 l1 F B = some (r, F9, B9) → zH D ca ad lnM nM L F B A H → va_S A s.heap H locs → lv_has ls 9 [(2, .int (iI l2)), (0, .ref (ad 14 0 0)), (1, .ref (ad 13 l1 0))] → W p l e ({ frames := 5, cells := 0, slots := 0, locals := 140 } : Room) s m args below meth c H locs 0 0 (MQ below (Q_M_gather D ca ad L r F9 B9 A) args s 0 0 A) (F0 m 7 ls [])) (hrec17 : ∀ {l3 : Int} {l2 : Int} {l1 : Int} {F : zF} {B : zB} {H : Heap} {locs : List Loc} {ls : Array Slot}, rec17 l3 l2 l1 F B = some (r, F9, B9) → zH D ca ad lnM nM L F B A H → va_S A s.heap H locs → lv_has ls 9 [(3, .int (iI l3)), (2, .int (iI l2)), (0, .ref (ad 14 0 0)), (1, .ref (ad 13 l1 0))] → W p l e ({ frames := 5, cells := 0, slots := 0, locals := 140 } : Room) s m args below meth c H locs 0 0 (MQ below (Q_M_gather D ca ad L r F9 B9 A) args s 0 0 A) (F0 m 17 ls [])) (hrec39 : ∀ {l5 : Int} {l4 : Int} {l3 : Int} {l2 : Int} {l1 : Int} {F : zF} {B : zB} {H : Heap} {locs : List Loc} {ls : Array Slot}, rec39 l5 l4 l3 l2 l1 F B = some (r, F9, B9) → zH D ca ad lnM nM L F B A H → va_S A s.heap H locs → lv_has ls 9 [(5, .int (iI l5)), (4, .int (iI l4)), (3, .int (iI l3)), (2, .int (iI l2)), (0, .ref (ad 14 0 0)), (1, .ref (ad 13 l1 0))] → W p l e ({ frames := 5, cells := 0, slots := 0, locals := 140 } : Room) s m args below meth c H locs 0 0 (MQ below (Q_M_gather D ca ad L r F9 B9 A) args s 0 0 A) (F0 m 39 ls [])) {l7 : Int} {l6 : Int} {l5 : Int} {l4 : Int} {l3 : Int} {l2 : Int} {l1 : Int} {F : zF} {B : zB} {H : Heap} {locs : List Loc} {ls : Array Slot} (hf : f_M_gather_144 rec7 rec17 rec39 K l7 l6 l5 l4 l3 l2 l1 F B = some (r, F9, B9)) (hZ : zH D ca ad lnM nM L F B A H) (hS : va_S A s.heap H locs) (hl : lv_has ls 9 [(7, .int (iI l7)), (6, .int (iI l6)), (5, .int (iI l5)), (4, .int (iI l4)), (3, .int (iI l3)), (2, .int (iI l2)), (0, .ref (ad 14 0 0)), (1, .ref (ad 13 l1 0))]) : W p l e ({ frames := 5, cells := 0, slots := 0, locals := 140 } : Room) s m args below meth c H locs 0 0 (MQ below (Q_M_gather D ca ad L r F9 B9 A) args s 0 0 A) (F0 m 144 ls []) := by
  obtain ⟨hx, hb, hr, hml, hown, hts, hlk, hK, hA, hL, hX⟩ := id X
  replace hf : (f_M_gather_145 rec7 rec17 rec39 K l7 l6 l5 l4 l3 l2 l1 0 F B) = some (r, F9, B9) := hf
  refine lv_iconst (v := iI 0) hx hb (D_3 W_prog_15_method_116_code_128 16 rfl rfl) rfl ?_
  exact b_M_gather_145 X hrec7 hrec17 hrec39 hf hZ hS (lv_sub hl [0, 1, 2, 3, 4, 5, 6, 7] rfl)

def f_M_gather_103 (rec7 : Int → Int → zF → zB → zO) (rec17 : Int → Int → Int → zF → zB → zO) (rec39 : Int → Int → Int → Int → Int → zF → zB → zO) (K : Nat) (l7 : Int) (l6 : Int) (l5 : Int) (l4 : Int) (l3 : Int) (l2 : Int) (l1 : Int) (F : zF) (B : zB) : zO := if 0 ≤ l1 ∧ l1 < 3 then if 0 ≤ l4 ∧ l4 < 4000 then if r32 (zand (B 13 l1 18 l4) 64) then (if (zand (B 13 l1 18 l4) 64) ≤ 0 then f_M_gather_144 rec7 rec17 rec39 K l7 l6 l5 l4 l3 l2 l1 F B else if r32 (B 13 l1 21 l4) then (if (B 13 l1 21 l4) = 1 then zbind (f_M_ties K l1 l4 l6 l7 F B) (fun r28 F28 B28 => if r32 r28 then (if r28 = 0 then f_M_gather_145 rec7 rec17 rec39 K l7 l6 l5 l4 l3 l2 l1 1 F28 B28 else f_M_gather_144 rec7 rec17 rec39 K l7 l6 l5 l4 l3 l2 l1 F28 B28) else none) else f_M_gather_144 rec7 rec17 rec39 K l7 l6 l5 l4 l3 l2 l1 F B) else none) else none else none else none
set_option maxHeartbeats 4000000 in
set_option maxRecDepth 100000 in
theorem b_M_gather_103 {D : va_G} {ca : Nat → ClassId} {ad : Nat → Int → Nat → Nat} {L : List Nat} {aS vS : Nat → Nat} {A : Nat → Prop} {p : Program} {l : Launch} {e : Env} {s : State} {m : MethodId} {args : Array Value} {below : List Frame} {meth : Method} {c : Code} {K : Nat} {r : Int} {F9 : zF} {B9 : zB} (X : zX D ca L aS vS A p s m args meth c prog_15_method_116_code 9 (Option.some Jvm.ClassFile.FieldType.int) "StaveHouseModel") {rec7 : Int → Int → zF → zB → zO} {rec17 : Int → Int → Int → zF → zB → zO} {rec39 : Int → Int → Int → Int → Int → zF → zB → zO} (hrec7 : ∀ {l2 : Int} {l1 : Int} {F : zF} {B : zB} {H : Heap} {locs : List Loc} {ls : Array Slot}, rec7 l2 l1 F B = some (r, F9, B9) → zH D ca ad lnM nM L F B A H → va_S A s.heap H locs → lv_has ls 9 [(2, .int (iI l2)), (0, .ref (ad 14 0 0)), (1, .ref (ad 13 l1 0))] → W p l e ({ frames := 5, cells := 0, slots := 0, locals := 140 } : Room) s m args below meth c H locs 0 0 (MQ below (Q_M_gather D ca ad L r F9 B9 A) args s 0 0 A) (F0 m 7 ls [])) (hrec17 : ∀ {l3 : Int} {l2 : Int} {l1 : Int} {F : zF} {B : zB} {H : Heap} {locs : List Loc} {ls : Array Slot}, rec17 l3 l2 l1 F B = some (r, F9, B9) → zH D ca ad lnM nM L F B A H → va_S A s.heap H locs → lv_has ls 9 [(3, .int (iI l3)), (2, .int (iI l2)), (0, .ref (ad 14 0 0)), (1, .ref (ad 13 l1 0))] → W p l e ({ frames := 5, cells := 0, slots := 0, locals := 140 } : Room) s m args below meth c H locs 0 0 (MQ below (Q_M_gather D ca ad L r F9 B9 A) args s 0 0 A) (F0 m 17 ls [])) (hrec39 : ∀ {l5 : Int} {l4 : Int} {l3 : Int} {l2 : Int} {l1 : Int} {F : zF} {B : zB} {H : Heap} {locs : List Loc} {ls : Array Slot}, rec39 l5 l4 l3 l2 l1 F B = some (r, F9, B9) → zH D ca ad lnM nM L F B A H → va_S A s.heap H locs → lv_has ls 9 [(5, .int (iI l5)), (4, .int (iI l4)), (3, .int (iI l3)), (2, .int (iI l2)), (0, .ref (ad 14 0 0)), (1, .ref (ad 13 l1 0))] → W p l e ({ frames := 5, cells := 0, slots := 0, locals := 140 } : Room) s m args below meth c H locs 0 0 (MQ below (Q_M_gather D ca ad L r F9 B9 A) args s 0 0 A) (F0 m 39 ls [])) {l7 : Int} {l6 : Int} {l5 : Int} {l4 : Int} {l3 : Int} {l2 : Int} {l1 : Int} {F : zF} {B : zB} {H : Heap} {locs : List Loc} {ls : Array Slot} (hf : f_M_gather_103 rec7 rec17 rec39 K l7 l6 l5 l4 l3 l2 l1 F B = some (r, F9, B9)) (hZ : zH D ca ad lnM nM L F B A H) (hS : va_S A s.heap H locs) (hl : lv_has ls 9 [(7, .int (iI l7)), (6, .int (iI l6)), (5, .int (iI l5)), (4, .int (iI l4)), (3, .int (iI l3)), (2, .int (iI l2)), (0, .ref (ad 14 0 0)), (1, .ref (ad 13 l1 0))]) : W p l e ({ frames := 5, cells := 0, slots := 0, locals := 140 } : Room) s m args below meth c H locs 0 0 (MQ below (Q_M_gather D ca ad L r F9 B9 A) args s 0 0 A) (F0 m 103 ls []) := by
  obtain ⟨hx, hb, hr, hml, hown, hts, hlk, hK, hA, hL, hX⟩ := id X
  replace hf : (if 0 ≤ l1 ∧ l1 < 3 then if 0 ≤ l4 ∧ l4 < 4000 then if r32 (zand (B 13 l1 18 l4) 64) then (if (zand (B 13 l1 18 l4) 64) ≤ 0 then f_M_gather_144 rec7 rec17 rec39 K l7 l6 l5 l4 l3 l2 l1 F B else if r32 (B 13 l1 21 l4) then (if (B 13 l1 21 l4) = 1 then zbind (f_M_ties K l1 l4 l6 l7 F B) (fun r28 F28 B28 => if r32 r28 then (if r28 = 0 then f_M_gather_145 rec7 rec17 rec39 K l7 l6 l5 l4 l3 l2 l1 1 F28 B28 else f_M_gather_144 rec7 rec17 rec39 K l7 l6 l5 l4 l3 l2 l1 F28 B28) else none) else f_M_gather_144 rec7 rec17 rec39 K l7 l6 l5 l4 l3 l2 l1 F B) else none) else none else none else none) = some (r, F9, B9) := hf
  refine lv_aload_n hx hb (D_43 W_prog_15_method_116_code_96 7 rfl rfl) rfl (lv_at hl 7 rfl) ?_
  obtain ⟨g22, hf⟩ := gif hf
  refine zget (ci := 13) (C := RX13) (T := TX13) (v := .ref (ad 13 l1 (18 + 1))) (k := 18) hx hb hts inW_13 hown hK hZ g22.1 g22.2 rfl (by decide) k_9_154 rfl (D_180 W_prog_15_method_116_code_96 8 rfl rfl rfl) ?_
  refine lv_iload hx hb (D_21 W_prog_15_method_116_code_96 11 rfl rfl) (lv_at hl 3 rfl) ?_
  obtain ⟨g23, hf⟩ := gif hf
  refine zald (ci := 13) (k := 18) hx hb hK rfl hZ g22.1 g22.2 rfl (Nat.le_of_ble_eq_true rfl) g23.1 g23.2 (D_46 W_prog_15_method_116_code_96 13 rfl rfl) ?_
  refine lv_bipush (v := iI 64) hx hb (D_16 W_prog_15_method_116_code_96 14 rfl rfl rfl) (by decide) ?_
  refine zand_r hx hb (D_126 W_prog_15_method_116_code_96 16 rfl rfl) ?_
  obtain ⟨g24, hf⟩ := gif hf
  refine z0le (tgt := 144) hx hb g24 (D_158 W_prog_15_method_116_code_96 17 rfl rfl rfl) (by decide) (fun h25 => ?_) (fun h25 => ?_)
  · replace hf := gpos hf h25
    exact b_M_gather_144 X hrec7 hrec17 hrec39 hf hZ hS (lv_sub hl [0, 1, 2, 3, 4, 5, 6, 7] rfl)
  · replace hf := gneg hf h25
    refine lv_aload_n hx hb (D_43 W_prog_15_method_116_code_96 20 rfl rfl) rfl (lv_at hl 7 rfl) ?_
    refine zget (ci := 13) (C := RX13) (T := TX13) (v := .ref (ad 13 l1 (21 + 1))) (k := 21) hx hb hts inW_13 hown hK hZ g22.1 g22.2 rfl (by decide) k_9_160 rfl (D_180 W_prog_15_method_116_code_96 21 rfl rfl rfl) ?_
    refine lv_iload hx hb (D_21 W_prog_15_method_116_code_96 24 rfl rfl) (lv_at hl 3 rfl) ?_
    refine zald (ci := 13) (k := 21) hx hb hK rfl hZ g22.1 g22.2 rfl (Nat.le_of_ble_eq_true rfl) g23.1 g23.2 (D_46 W_prog_15_method_116_code_96 26 rfl rfl) ?_
    refine lv_iconst (v := iI 1) hx hb (D_4 W_prog_15_method_116_code_96 27 rfl rfl) rfl ?_
    obtain ⟨g26, hf⟩ := gif hf
    refine zne (tgt := 144) hx hb g26 (by decide) (D_160 W_prog_15_method_116_code_96 28 rfl rfl rfl) (by decide) (fun h27 => ?_) (fun h27 => ?_)
    · replace hf := gneg hf h27
      exact b_M_gather_144 X hrec7 hrec17 hrec39 hf hZ hS (lv_sub hl [0, 1, 2, 3, 4, 5, 6, 7] rfl)
    · replace hf := gpos hf h27
      refine lv_aload_n hx hb (D_43 W_prog_15_method_116_code_96 31 rfl rfl) rfl (lv_at hl 7 rfl) ?_
      refine lv_iload hx hb (D_21 W_prog_15_method_116_code_128 0 rfl rfl) (lv_at hl 3 rfl) ?_
      refine lv_iload hx hb (D_21 W_prog_15_method_116_code_128 2 rfl rfl) (lv_at hl 1 rfl) ?_
      refine lv_iload hx hb (D_21 W_prog_15_method_116_code_128 4 rfl rfl) (lv_at hl 0 rfl) ?_
      obtain ⟨r28, F28, B28, hc28, hf⟩ := gbind hf
      refine va_calli (va_runS (As := [.ref (ad 13 l1 0), .int (iI l4), .int (iI l6), .int (iI l7)]) (rest := []) ⟨hx, hb, hml, hown, hts⟩ (c_M_ties (l := l) hc28) (va_cwS 4 hts (gdS k_12_129 k_12_130 k_1_9 k_12_131) rfl rfl rfl (by decide +kernel) ⟨Nat.le_of_ble_eq_true rfl, Nat.le_of_ble_eq_true rfl⟩) (zPS X hZ hS [.ref (ad 13 l1 0), .int (iI l4), .int (iI l6), .int (iI l7)]) rfl rfl hl.1 rfl (lv_room (Nat.le_of_ble_eq_true rfl)) (D_184 W_prog_15_method_116_code_128 6 rfl rfl rfl) ⟨Nat.le_of_ble_eq_true rfl, Nat.le_of_ble_eq_true rfl⟩) hS (fun q _ h => zAin X hS q h) (zAin X hS) (fun p28 u28 t28 H28 locs28 ht28 hv28 hw28 hB28 hz28 hk28 hS28 => ?_)
      have hZ28 := zBack X ht28 hB28
      subst hw28
      obtain ⟨g29, hf⟩ := gif hf
      refine z0ne (tgt := 144) hx hb g29 (D_154 W_prog_15_method_116_code_128 9 rfl rfl rfl) (by decide) (fun h30 => ?_) (fun h30 => ?_)
      · replace hf := gneg hf h30
        exact b_M_gather_144 X hrec7 hrec17 hrec39 hf hZ28 hS28 (lv_sub hl [0, 1, 2, 3, 4, 5, 6, 7] rfl)
      · replace hf := gpos hf h30
        refine lv_iconst (v := iI 1) hx hb (D_4 W_prog_15_method_116_code_128 12 rfl rfl) rfl ?_
        refine lv_goto (tgt := 145) hx hb (D_167 W_prog_15_method_116_code_128 13 rfl rfl rfl) (by decide) ?_
        exact b_M_gather_145 X hrec7 hrec17 hrec39 hf hZ28 hS28 (lv_sub hl [0, 1, 2, 3, 4, 5, 6, 7] rfl)

def f_M_gather_39 (rec7 : Int → Int → zF → zB → zO) (rec17 : Int → Int → Int → zF → zB → zO) (K : Nat) : Nat → Int → Int → Int → Int → Int → zF → zB → zO
  | 0, _, _, _, _, _, _, _ => none
  | n + 1, l5, l4, l3, l2, l1, F, B => if 0 ≤ l1 ∧ l1 < 3 then if 0 ≤ l4 ∧ l4 < 4000 then if r32 l5 then if r32 (B 13 l1 21 l4) then (if (B 13 l1 21 l4) ≤ l5 then rec17 (l3 + 1) l2 l1 F B else if 0 ≤ ((6 * l4) + l5) ∧ ((6 * l4) + l5) < 24000 then if r32 l3 then (if l3 ≤ 0 then f_M_gather_103 rec7 rec17 (f_M_gather_39 rec7 rec17 K n) K (B 13 l1 29 ((6 * l4) + l5)) (B 13 l1 28 ((6 * l4) + l5)) l5 l4 l3 l2 l1 F B else zbind (f_M_ties K l1 (l4 - 1) (B 13 l1 28 ((6 * l4) + l5)) (B 13 l1 29 ((6 * l4) + l5)) F B) (fun r19 F19 B19 => if r32 r19 then (if r19 = 0 then f_M_gather_103 rec7 rec17 (f_M_gather_39 rec7 rec17 K n) K (B 13 l1 29 ((6 * l4) + l5)) (B 13 l1 28 ((6 * l4) + l5)) l5 l4 l3 l2 l1 F19 B19 else f_M_gather_177 rec7 rec17 (f_M_gather_39 rec7 rec17 K n) K l5 l4 l3 l2 l1 F19 B19) else none)) else none else none) else none else none else none else none
set_option maxHeartbeats 4000000 in
set_option maxRecDepth 100000 in
theorem b_M_gather_39 {D : va_G} {ca : Nat → ClassId} {ad : Nat → Int → Nat → Nat} {L : List Nat} {aS vS : Nat → Nat} {A : Nat → Prop} {p : Program} {l : Launch} {e : Env} {s : State} {m : MethodId} {args : Array Value} {below : List Frame} {meth : Method} {c : Code} {K : Nat} {r : Int} {F9 : zF} {B9 : zB} (X : zX D ca L aS vS A p s m args meth c prog_15_method_116_code 9 (Option.some Jvm.ClassFile.FieldType.int) "StaveHouseModel") {rec7 : Int → Int → zF → zB → zO} {rec17 : Int → Int → Int → zF → zB → zO} (hrec7 : ∀ {l2 : Int} {l1 : Int} {F : zF} {B : zB} {H : Heap} {locs : List Loc} {ls : Array Slot}, rec7 l2 l1 F B = some (r, F9, B9) → zH D ca ad lnM nM L F B A H → va_S A s.heap H locs → lv_has ls 9 [(2, .int (iI l2)), (0, .ref (ad 14 0 0)), (1, .ref (ad 13 l1 0))] → W p l e ({ frames := 5, cells := 0, slots := 0, locals := 140 } : Room) s m args below meth c H locs 0 0 (MQ below (Q_M_gather D ca ad L r F9 B9 A) args s 0 0 A) (F0 m 7 ls [])) (hrec17 : ∀ {l3 : Int} {l2 : Int} {l1 : Int} {F : zF} {B : zB} {H : Heap} {locs : List Loc} {ls : Array Slot}, rec17 l3 l2 l1 F B = some (r, F9, B9) → zH D ca ad lnM nM L F B A H → va_S A s.heap H locs → lv_has ls 9 [(3, .int (iI l3)), (2, .int (iI l2)), (0, .ref (ad 14 0 0)), (1, .ref (ad 13 l1 0))] → W p l e ({ frames := 5, cells := 0, slots := 0, locals := 140 } : Room) s m args below meth c H locs 0 0 (MQ below (Q_M_gather D ca ad L r F9 B9 A) args s 0 0 A) (F0 m 17 ls [])) : ∀ {n : Nat} {l5 : Int} {l4 : Int} {l3 : Int} {l2 : Int} {l1 : Int} {F : zF} {B : zB} {H : Heap} {locs : List Loc} {ls : Array Slot}, f_M_gather_39 rec7 rec17 K n l5 l4 l3 l2 l1 F B = some (r, F9, B9) → zH D ca ad lnM nM L F B A H → va_S A s.heap H locs → lv_has ls 9 [(5, .int (iI l5)), (4, .int (iI l4)), (3, .int (iI l3)), (2, .int (iI l2)), (0, .ref (ad 14 0 0)), (1, .ref (ad 13 l1 0))] → W p l e ({ frames := 5, cells := 0, slots := 0, locals := 140 } : Room) s m args below meth c H locs 0 0 (MQ below (Q_M_gather D ca ad L r F9 B9 A) args s 0 0 A) (F0 m 39 ls []) := by
  obtain ⟨hx, hb, hr, hml, hown, hts, hlk, hK, hA, hL, hX⟩ := id X
  intro n
  induction n with
  | zero =>
    intros
    rename_i hf _ _ _
    cases hf
  | succ n ih =>
    intro l5 l4 l3 l2 l1 F B H locs ls hf hZ hS hl
    replace hf : (if 0 ≤ l1 ∧ l1 < 3 then if 0 ≤ l4 ∧ l4 < 4000 then if r32 l5 then if r32 (B 13 l1 21 l4) then (if (B 13 l1 21 l4) ≤ l5 then rec17 (l3 + 1) l2 l1 F B else if 0 ≤ ((6 * l4) + l5) ∧ ((6 * l4) + l5) < 24000 then if r32 l3 then (if l3 ≤ 0 then f_M_gather_103 rec7 rec17 (f_M_gather_39 rec7 rec17 K n) K (B 13 l1 29 ((6 * l4) + l5)) (B 13 l1 28 ((6 * l4) + l5)) l5 l4 l3 l2 l1 F B else zbind (f_M_ties K l1 (l4 - 1) (B 13 l1 28 ((6 * l4) + l5)) (B 13 l1 29 ((6 * l4) + l5)) F B) (fun r19 F19 B19 => if r32 r19 then (if r19 = 0 then f_M_gather_103 rec7 rec17 (f_M_gather_39 rec7 rec17 K n) K (B 13 l1 29 ((6 * l4) + l5)) (B 13 l1 28 ((6 * l4) + l5)) l5 l4 l3 l2 l1 F19 B19 else f_M_gather_177 rec7 rec17 (f_M_gather_39 rec7 rec17 K n) K l5 l4 l3 l2 l1 F19 B19) else none)) else none else none) else none else none else none else none) = some (r, F9, B9) := hf
    refine lv_iload hx hb (D_21 W_prog_15_method_116_code_32 7 rfl rfl) (lv_at hl 0 rfl) ?_
    refine lv_aload_n hx hb (D_43 W_prog_15_method_116_code_32 9 rfl rfl) rfl (lv_at hl 5 rfl) ?_
    obtain ⟨g11, hf⟩ := gif hf
    refine zget (ci := 13) (C := RX13) (T := TX13) (v := .ref (ad 13 l1 (21 + 1))) (k := 21) hx hb hts inW_13 hown hK hZ g11.1 g11.2 rfl (by decide) k_9_160 rfl (D_180 W_prog_15_method_116_code_32 10 rfl rfl rfl) ?_
    refine lv_iload hx hb (D_21 W_prog_15_method_116_code_32 13 rfl rfl) (lv_at hl 1 rfl) ?_
    obtain ⟨g12, hf⟩ := gif hf
    refine zald (ci := 13) (k := 21) hx hb hK rfl hZ g11.1 g11.2 rfl (Nat.le_of_ble_eq_true rfl) g12.1 g12.2 (D_46 W_prog_15_method_116_code_32 15 rfl rfl) ?_
    obtain ⟨g13, hf⟩ := gif hf
    obtain ⟨g14, hf⟩ := gif hf
    refine zge (tgt := 183) hx hb g13 g14 (D_162 W_prog_15_method_116_code_32 16 rfl rfl rfl) (by decide) (fun h15 => ?_) (fun h15 => ?_)
    · replace hf := gpos hf h15
      refine lv_iinc (v := iI (l3 + 1)) (lv' := [(3, .int (iI (l3 + 1))), (5, .int (iI l5)), (4, .int (iI l4)), (2, .int (iI l2)), (0, .ref (ad 14 0 0)), (1, .ref (ad 13 l1 0))]) hx hb d_15_116_183 hl (k := 2) rfl (iI_add _ 1) (by decide) rfl (fun ls hl => ?_)
      refine lv_goto (tgt := 17) hx hb (D_167 W_prog_15_method_116_code_160 26 rfl rfl rfl) (by decide) ?_
      exact hrec17 hf hZ hS (lv_sub hl [0, 3, 4, 5] rfl)
    · replace hf := gneg hf h15
      refine lv_aload_n hx hb (D_43 W_prog_15_method_116_code_32 19 rfl rfl) rfl (lv_at hl 5 rfl) ?_
      refine zget (ci := 13) (C := RX13) (T := TX13) (v := .ref (ad 13 l1 (28 + 1))) (k := 28) hx hb hts inW_13 hown hK hZ g11.1 g11.2 rfl (by decide) k_9_174 rfl (D_180 W_prog_15_method_116_code_32 20 rfl rfl rfl) ?_
      refine lv_bipush (v := iI 6) hx hb (D_16 W_prog_15_method_116_code_32 23 rfl rfl rfl) (by decide) ?_
      refine lv_iload hx hb (D_21 W_prog_15_method_116_code_32 25 rfl rfl) (lv_at hl 1 rfl) ?_
      refine zmul hx hb (D_104 W_prog_15_method_116_code_32 27 rfl rfl) ?_
      refine lv_iload hx hb (D_21 W_prog_15_method_116_code_32 28 rfl rfl) (lv_at hl 0 rfl) ?_
      refine zadd hx hb (D_96 W_prog_15_method_116_code_32 30 rfl rfl) ?_
      obtain ⟨g16, hf⟩ := gif hf
      refine zald (ci := 13) (k := 28) hx hb hK rfl hZ g11.1 g11.2 rfl (Nat.le_of_ble_eq_true rfl) g16.1 g16.2 (D_46 W_prog_15_method_116_code_32 31 rfl rfl) ?_
      refine lv_istore (lv' := [(6, .int (iI (B 13 l1 28 ((6 * l4) + l5)))), (5, .int (iI l5)), (4, .int (iI l4)), (3, .int (iI l3)), (2, .int (iI l2)), (0, .ref (ad 14 0 0)), (1, .ref (ad 13 l1 0))]) hx hb (D_54 W_prog_15_method_116_code_64 0 rfl rfl) hl (by decide) rfl (fun ls hl => ?_)
      refine lv_aload_n hx hb (D_43 W_prog_15_method_116_code_64 2 rfl rfl) rfl (lv_at hl 6 rfl) ?_
      refine zget (ci := 13) (C := RX13) (T := TX13) (v := .ref (ad 13 l1 (29 + 1))) (k := 29) hx hb hts inW_13 hown hK hZ g11.1 g11.2 rfl (by decide) k_9_176 rfl (D_180 W_prog_15_method_116_code_64 3 rfl rfl rfl) ?_
      refine lv_bipush (v := iI 6) hx hb (D_16 W_prog_15_method_116_code_64 6 rfl rfl rfl) (by decide) ?_
      refine lv_iload hx hb (D_21 W_prog_15_method_116_code_64 8 rfl rfl) (lv_at hl 2 rfl) ?_
      refine zmul hx hb (D_104 W_prog_15_method_116_code_64 10 rfl rfl) ?_
      refine lv_iload hx hb (D_21 W_prog_15_method_116_code_64 11 rfl rfl) (lv_at hl 1 rfl) ?_
      refine zadd hx hb (D_96 W_prog_15_method_116_code_64 13 rfl rfl) ?_
      refine zald (ci := 13) (k := 29) hx hb hK rfl hZ g11.1 g11.2 rfl (Nat.le_of_ble_eq_true rfl) g16.1 g16.2 (D_46 W_prog_15_method_116_code_64 14 rfl rfl) ?_
      refine lv_istore (lv' := [(7, .int (iI (B 13 l1 29 ((6 * l4) + l5)))), (6, .int (iI (B 13 l1 28 ((6 * l4) + l5)))), (5, .int (iI l5)), (4, .int (iI l4)), (3, .int (iI l3)), (2, .int (iI l2)), (0, .ref (ad 14 0 0)), (1, .ref (ad 13 l1 0))]) hx hb (D_54 W_prog_15_method_116_code_64 15 rfl rfl) hl (by decide) rfl (fun ls hl => ?_)
      refine lv_iload_n hx hb (D_29 W_prog_15_method_116_code_64 17 rfl rfl) rfl (lv_at hl 4 rfl) ?_
      obtain ⟨g17, hf⟩ := gif hf
      refine z0le (tgt := 103) hx hb g17 (D_158 W_prog_15_method_116_code_64 18 rfl rfl rfl) (by decide) (fun h18 => ?_) (fun h18 => ?_)
      · replace hf := gpos hf h18
        exact b_M_gather_103 X hrec7 hrec17 ih hf hZ hS (lv_sub hl [0, 1, 2, 3, 4, 5, 6, 7] rfl)
      · replace hf := gneg hf h18
        refine lv_aload_n hx hb (D_43 W_prog_15_method_116_code_64 21 rfl rfl) rfl (lv_at hl 7 rfl) ?_
        refine lv_iload hx hb (D_21 W_prog_15_method_116_code_64 22 rfl rfl) (lv_at hl 3 rfl) ?_
        refine lv_iconst (v := iI 1) hx hb (D_4 W_prog_15_method_116_code_64 24 rfl rfl) rfl ?_
        refine zsub hx hb (D_100 W_prog_15_method_116_code_64 25 rfl rfl) ?_
        refine lv_iload hx hb (D_21 W_prog_15_method_116_code_64 26 rfl rfl) (lv_at hl 1 rfl) ?_
        refine lv_iload hx hb (D_21 W_prog_15_method_116_code_64 28 rfl rfl) (lv_at hl 0 rfl) ?_
        obtain ⟨r19, F19, B19, hc19, hf⟩ := gbind hf
        refine va_calli (va_runS (As := [.ref (ad 13 l1 0), .int (iI (l4 - 1)), .int (iI (B 13 l1 28 ((6 * l4) + l5))), .int (iI (B 13 l1 29 ((6 * l4) + l5)))]) (rest := []) ⟨hx, hb, hml, hown, hts⟩ (c_M_ties (l := l) hc19) (va_cwS 4 hts (gdS k_12_129 k_12_130 k_1_9 k_12_131) rfl rfl rfl (by decide +kernel) ⟨Nat.le_of_ble_eq_true rfl, Nat.le_of_ble_eq_true rfl⟩) (zPS X hZ hS [.ref (ad 13 l1 0), .int (iI (l4 - 1)), .int (iI (B 13 l1 28 ((6 * l4) + l5))), .int (iI (B 13 l1 29 ((6 * l4) + l5)))]) rfl rfl hl.1 rfl (lv_room (Nat.le_of_ble_eq_true rfl)) (D_184 W_prog_15_method_116_code_64 30 rfl rfl rfl) ⟨Nat.le_of_ble_eq_true rfl, Nat.le_of_ble_eq_true rfl⟩) hS (fun q _ h => zAin X hS q h) (zAin X hS) (fun p19 u19 t19 H19 locs19 ht19 hv19 hw19 hB19 hz19 hk19 hS19 => ?_)
        have hZ19 := zBack X ht19 hB19
        subst hw19
        obtain ⟨g20, hf⟩ := gif hf
        refine z0eq (tgt := 103) hx hb g20 (D_153 W_prog_15_method_116_code_96 1 rfl rfl rfl) (by decide) (fun h21 => ?_) (fun h21 => ?_)
        · replace hf := gpos hf h21
          exact b_M_gather_103 X hrec7 hrec17 ih hf hZ19 hS19 (lv_sub hl [0, 1, 2, 3, 4, 5, 6, 7] rfl)
        · replace hf := gneg hf h21
          refine lv_goto (tgt := 177) hx hb (D_167 W_prog_15_method_116_code_96 4 rfl rfl rfl) (by decide) ?_
          exact b_M_gather_177 X hrec7 hrec17 ih hf hZ19 hS19 (lv_sub hl [2, 3, 4, 5, 6, 7] rfl)

def f_M_gather_17 (rec7 : Int → Int → zF → zB → zO) (K : Nat) : Nat → Int → Int → Int → zF → zB → zO
  | 0, _, _, _, _, _ => none
  | n + 1, l3, l2, l1, F, B => if 0 ≤ l1 ∧ l1 < 3 then if 0 ≤ l2 ∧ l2 < 4 then if r32 l3 then if r32 (B 13 l1 12 l2) then (if (B 13 l1 12 l2) ≤ l3 then rec7 (l2 + 1) l1 F B else f_M_gather_39 rec7 (f_M_gather_17 rec7 K n) K K 0 ((1000 * l2) + l3) l3 l2 l1 F B) else none else none else none else none
set_option maxHeartbeats 4000000 in
set_option maxRecDepth 100000 in
theorem b_M_gather_17 {D : va_G} {ca : Nat → ClassId} {ad : Nat → Int → Nat → Nat} {L : List Nat} {aS vS : Nat → Nat} {A : Nat → Prop} {p : Program} {l : Launch} {e : Env} {s : State} {m : MethodId} {args : Array Value} {below : List Frame} {meth : Method} {c : Code} {K : Nat} {r : Int} {F9 : zF} {B9 : zB} (X : zX D ca L aS vS A p s m args meth c prog_15_method_116_code 9 (Option.some Jvm.ClassFile.FieldType.int) "StaveHouseModel") {rec7 : Int → Int → zF → zB → zO} (hrec7 : ∀ {l2 : Int} {l1 : Int} {F : zF} {B : zB} {H : Heap} {locs : List Loc} {ls : Array Slot}, rec7 l2 l1 F B = some (r, F9, B9) → zH D ca ad lnM nM L F B A H → va_S A s.heap H locs → lv_has ls 9 [(2, .int (iI l2)), (0, .ref (ad 14 0 0)), (1, .ref (ad 13 l1 0))] → W p l e ({ frames := 5, cells := 0, slots := 0, locals := 140 } : Room) s m args below meth c H locs 0 0 (MQ below (Q_M_gather D ca ad L r F9 B9 A) args s 0 0 A) (F0 m 7 ls [])) : ∀ {n : Nat} {l3 : Int} {l2 : Int} {l1 : Int} {F : zF} {B : zB} {H : Heap} {locs : List Loc} {ls : Array Slot}, f_M_gather_17 rec7 K n l3 l2 l1 F B = some (r, F9, B9) → zH D ca ad lnM nM L F B A H → va_S A s.heap H locs → lv_has ls 9 [(3, .int (iI l3)), (2, .int (iI l2)), (0, .ref (ad 14 0 0)), (1, .ref (ad 13 l1 0))] → W p l e ({ frames := 5, cells := 0, slots := 0, locals := 140 } : Room) s m args below meth c H locs 0 0 (MQ below (Q_M_gather D ca ad L r F9 B9 A) args s 0 0 A) (F0 m 17 ls []) := by
  obtain ⟨hx, hb, hr, hml, hown, hts, hlk, hK, hA, hL, hX⟩ := id X
  intro n
  induction n with
  | zero =>
    intros
    rename_i hf _ _ _
    cases hf
  | succ n ih =>
    intro l3 l2 l1 F B H locs ls hf hZ hS hl
    replace hf : (if 0 ≤ l1 ∧ l1 < 3 then if 0 ≤ l2 ∧ l2 < 4 then if r32 l3 then if r32 (B 13 l1 12 l2) then (if (B 13 l1 12 l2) ≤ l3 then rec7 (l2 + 1) l1 F B else f_M_gather_39 rec7 (f_M_gather_17 rec7 K n) K K 0 ((1000 * l2) + l3) l3 l2 l1 F B) else none else none else none else none) = some (r, F9, B9) := hf
    refine lv_iload_n hx hb (D_29 W_prog_15_method_116_code_0 17 rfl rfl) rfl (lv_at hl 0 rfl) ?_
    refine lv_aload_n hx hb (D_43 W_prog_15_method_116_code_0 18 rfl rfl) rfl (lv_at hl 3 rfl) ?_
    obtain ⟨g6, hf⟩ := gif hf
    refine zget (ci := 13) (C := RX13) (T := TX13) (v := .ref (ad 13 l1 (12 + 1))) (k := 12) hx hb hts inW_13 hown hK hZ g6.1 g6.2 rfl (by decide) k_9_142 rfl (D_180 W_prog_15_method_116_code_0 19 rfl rfl rfl) ?_
    refine lv_iload_n hx hb (D_28 W_prog_15_method_116_code_0 22 rfl rfl) rfl (lv_at hl 1 rfl) ?_
    obtain ⟨g7, hf⟩ := gif hf
    refine zald (ci := 13) (k := 12) hx hb hK rfl hZ g6.1 g6.2 rfl (Nat.le_of_ble_eq_true rfl) g7.1 g7.2 (D_46 W_prog_15_method_116_code_0 23 rfl rfl) ?_
    obtain ⟨g8, hf⟩ := gif hf
    obtain ⟨g9, hf⟩ := gif hf
    refine zge (tgt := 189) hx hb g8 g9 (D_162 W_prog_15_method_116_code_0 24 rfl rfl rfl) (by decide) (fun h10 => ?_) (fun h10 => ?_)
    · replace hf := gpos hf h10
      refine lv_iinc (v := iI (l2 + 1)) (lv' := [(2, .int (iI (l2 + 1))), (3, .int (iI l3)), (0, .ref (ad 14 0 0)), (1, .ref (ad 13 l1 0))]) hx hb d_15_116_189 hl (k := 1) rfl (iI_add _ 1) (by decide) rfl (fun ls hl => ?_)
      refine lv_goto (tgt := 7) hx hb (D_167 W_prog_15_method_116_code_192 0 rfl rfl rfl) (by decide) ?_
      exact hrec7 hf hZ hS (lv_sub hl [0, 2, 3] rfl)
    · replace hf := gneg hf h10
      refine lv_sipush (v := iI 1000) hx hb (D_17 W_prog_15_method_116_code_0 27 rfl rfl rfl) (by decide) ?_
      refine lv_iload_n hx hb (D_28 W_prog_15_method_116_code_0 30 rfl rfl) rfl (lv_at hl 1 rfl) ?_
      refine zmul hx hb (D_104 W_prog_15_method_116_code_0 31 rfl rfl) ?_
      refine lv_iload_n hx hb (D_29 W_prog_15_method_116_code_32 0 rfl rfl) rfl (lv_at hl 0 rfl) ?_
      refine zadd hx hb (D_96 W_prog_15_method_116_code_32 1 rfl rfl) ?_
      refine lv_istore (lv' := [(4, .int (iI ((1000 * l2) + l3))), (3, .int (iI l3)), (2, .int (iI l2)), (0, .ref (ad 14 0 0)), (1, .ref (ad 13 l1 0))]) hx hb (D_54 W_prog_15_method_116_code_32 2 rfl rfl) hl (by decide) rfl (fun ls hl => ?_)
      refine lv_iconst (v := iI 0) hx hb (D_3 W_prog_15_method_116_code_32 4 rfl rfl) rfl ?_
      refine lv_istore (lv' := [(5, .int (iI 0)), (4, .int (iI ((1000 * l2) + l3))), (3, .int (iI l3)), (2, .int (iI l2)), (0, .ref (ad 14 0 0)), (1, .ref (ad 13 l1 0))]) hx hb (D_54 W_prog_15_method_116_code_32 5 rfl rfl) hl (by decide) rfl (fun ls hl => ?_)
      exact b_M_gather_39 X hrec7 ih hf hZ hS (lv_sub hl [0, 1, 2, 3, 4, 5] rfl)

def f_M_gather_7 (K : Nat) : Nat → Int → Int → zF → zB → zO
  | 0, _, _, _, _ => none
  | n + 1, l2, l1, F, B => if 0 ≤ l1 ∧ l1 < 3 then if r32 l2 then if r32 (F 13 l1 1) then (if (F 13 l1 1) ≤ l2 then some (F 14 0 62, F, B) else f_M_gather_17 (f_M_gather_7 K n) K K 0 l2 l1 F B) else none else none else none
set_option maxHeartbeats 4000000 in
set_option maxRecDepth 100000 in
theorem b_M_gather_7 {D : va_G} {ca : Nat → ClassId} {ad : Nat → Int → Nat → Nat} {L : List Nat} {aS vS : Nat → Nat} {A : Nat → Prop} {p : Program} {l : Launch} {e : Env} {s : State} {m : MethodId} {args : Array Value} {below : List Frame} {meth : Method} {c : Code} {K : Nat} {r : Int} {F9 : zF} {B9 : zB} (X : zX D ca L aS vS A p s m args meth c prog_15_method_116_code 9 (Option.some Jvm.ClassFile.FieldType.int) "StaveHouseModel") : ∀ {n : Nat} {l2 : Int} {l1 : Int} {F : zF} {B : zB} {H : Heap} {locs : List Loc} {ls : Array Slot}, f_M_gather_7 K n l2 l1 F B = some (r, F9, B9) → zH D ca ad lnM nM L F B A H → va_S A s.heap H locs → lv_has ls 9 [(2, .int (iI l2)), (0, .ref (ad 14 0 0)), (1, .ref (ad 13 l1 0))] → W p l e ({ frames := 5, cells := 0, slots := 0, locals := 140 } : Room) s m args below meth c H locs 0 0 (MQ below (Q_M_gather D ca ad L r F9 B9 A) args s 0 0 A) (F0 m 7 ls []) := by
  obtain ⟨hx, hb, hr, hml, hown, hts, hlk, hK, hA, hL, hX⟩ := id X
  intro n
  induction n with
  | zero =>
    intros
    rename_i hf _ _ _
    cases hf
  | succ n ih =>
    intro l2 l1 F B H locs ls hf hZ hS hl
    replace hf : (if 0 ≤ l1 ∧ l1 < 3 then if r32 l2 then if r32 (F 13 l1 1) then (if (F 13 l1 1) ≤ l2 then some (F 14 0 62, F, B) else f_M_gather_17 (f_M_gather_7 K n) K K 0 l2 l1 F B) else none else none else none) = some (r, F9, B9) := hf
    refine lv_iload_n hx hb (D_28 W_prog_15_method_116_code_0 7 rfl rfl) rfl (lv_at hl 0 rfl) ?_
    refine lv_aload_n hx hb (D_43 W_prog_15_method_116_code_0 8 rfl rfl) rfl (lv_at hl 2 rfl) ?_
    obtain ⟨g2, hf⟩ := gif hf
    refine zget (ci := 13) (C := RX13) (T := TX13) (v := .int (iI (F 13 l1 1))) (k := 1) hx hb hts inW_13 hown hK hZ g2.1 g2.2 rfl (by decide) k_9_126 rfl (D_180 W_prog_15_method_116_code_0 9 rfl rfl rfl) ?_
    obtain ⟨g3, hf⟩ := gif hf
    obtain ⟨g4, hf⟩ := gif hf
    refine zge (tgt := 195) hx hb g3 g4 (D_162 W_prog_15_method_116_code_0 12 rfl rfl rfl) (by decide) (fun h5 => ?_) (fun h5 => ?_)
    · replace hf := gpos hf h5
      refine lv_aload_n hx hb (D_42 W_prog_15_method_116_code_192 3 rfl rfl) rfl (lv_at hl 1 rfl) ?_
      refine zget (ci := 14) (C := RX14) (T := TX14) (v := .int (iI (F 14 0 62))) (k := 62) hx hb hts inW_14 hown hK hZ (by decide) (by decide) rfl (by decide) k_11_60 rfl (D_180 W_prog_15_method_116_code_192 4 rfl rfl rfl) ?_
      cases hf
      exact W.iret hx hb hr (fun t ht hW => ⟨⟨_, (), rfl, rfl, by rw [ht]; exact hZ, va_K.moved hW.alike hK⟩, hS.F ht⟩) hS.2.2 (D_172 W_prog_15_method_116_code_192 7 rfl rfl) hlk
    · replace hf := gneg hf h5
      refine lv_iconst (v := iI 0) hx hb (D_3 W_prog_15_method_116_code_0 15 rfl rfl) rfl ?_
      refine lv_istore_n (lv' := [(3, .int (iI 0)), (2, .int (iI l2)), (0, .ref (ad 14 0 0)), (1, .ref (ad 13 l1 0))]) hx hb (D_62 W_prog_15_method_116_code_0 16 rfl rfl) rfl hl (by decide) rfl (fun ls hl => ?_)
      exact b_M_gather_17 X ih hf hZ hS (lv_sub hl [0, 1, 2, 3] rfl)

def f_M_gather (K : Nat) (l1 : Int) (F : zF) (B : zB) : zO := f_M_gather_7 K K 0 l1 (zup3 F 14 0 62 0) B
set_option maxHeartbeats 4000000 in
set_option maxRecDepth 100000 in
theorem c_M_gather {l : Launch} {D : va_G} {ca : Nat → ClassId} {ad : Nat → Int → Nat → Nat} {L : List Nat} {aS vS : Nat → Nat} {sz K : Nat}  {l1 : Int} {F F9 : zF} {B B9 : zB} {r : Int} (hf : f_M_gather K l1 F B = some (r, F9, B9)) : Met l ({ cls := "StaveHouseModel", name := "gather", desc := "(LStaveHouseModel$Piece;)I" } : Jvm.MethodName) (Cond.code ({ cls := "StaveHouseModel", name := "gather", desc := "(LStaveHouseModel$Piece;)I" } : Jvm.MethodName) prog_15_method_116_code 9 (Option.some Jvm.ClassFile.FieldType.int) :: wAll) ({ frames := 5, cells := 0, slots := 0, locals := 140 } : Room) (va_Pc [.ref (ad 14 0 0), .ref (ad 13 l1 0)] (zPre D ca ad lnM nM L aS vS F B sz)) (Q_M_gather D ca ad L r F9 B9 (zA L sz)) 0 0 (zA L sz) := by
  refine zMet (Qc := Q_M_gather D ca ad L r F9 B9) (lv := [(0, .ref (ad 14 0 0)), (1, .ref (ad 13 l1 0))]) (by decide) (Nat.le_of_ble_eq_true rfl) rfl (fun A p e s m below meth c ls X hZ hS hl => ?_)
  obtain ⟨hx, hb, hr, hml, hown, hts, hlk, hK, hA, hL, hX⟩ := id X
  replace hf : (f_M_gather_7 K K 0 l1 (zup3 F 14 0 62 0) B) = some (r, F9, B9) := hf
  refine lv_aload_n hx hb (D_42 W_prog_15_method_116_code_0 0 rfl rfl) rfl (lv_at hl 0 rfl) ?_
  refine lv_iconst (v := iI 0) hx hb (D_3 W_prog_15_method_116_code_0 1 rfl rfl) rfl ?_
  refine zput (ci := 14) (C := RX14) (T := TX14) (k := 62) (v := 0) (w := .int (iI 0)) hx hb hts inW_14 tyX14 tyX14_ok nmX14 hown hK hZ hS (by decide) (by decide) rfl (by decide) k_11_60 rfl (fun G h => congrArg (fun q => Value.int (iI q)) h) rfl rfl (zno (by decide)) (D_181 W_prog_15_method_116_code_0 2 rfl rfl rfl) (fun H1 locs1 hZ1 hS1 => ?_)
  refine lv_iconst (v := iI 0) hx hb (D_3 W_prog_15_method_116_code_0 5 rfl rfl) rfl ?_
  refine lv_istore_n (lv' := [(2, .int (iI 0)), (0, .ref (ad 14 0 0)), (1, .ref (ad 13 l1 0))]) hx hb (D_61 W_prog_15_method_116_code_0 6 rfl rfl) rfl hl (by decide) rfl (fun ls hl => ?_)
  exact b_M_gather_7 X hf hZ1 hS1 (lv_sub hl [0, 1, 2] rfl)

abbrev Q_M_open (D : va_G) (ca : Nat → ClassId) (ad : Nat → Int → Nat → Nat) (L : List Nat) (r : Int) (F : zF) (B : zB) (A : Nat → Prop) : Array Value → State → Outcome → State → Prop := va_Qi (S := Unit) (fun p _ => p = iI r) (fun _ => zPo D ca ad lnM nM L F B A) A
def f_M_open_198 (K : Nat)  (F : zF) (B : zB) : zO := zbind (f_M_good K (zup3 F 14 0 3 0) B) (fun r44 F44 B44 => if r32 r44 then (if r44 = 0 then some ((F44 14 0 17) + (16 * (F44 14 0 18)), F44, B44) else zbind (f_M_keep K F44 (zup4 B44 14 0 74 7 (F44 14 0 94))) (fun r48 F48 B48 => some (0, F48, B48))) else none)
set_option maxHeartbeats 4000000 in
set_option maxRecDepth 100000 in
theorem b_M_open_198 {D : va_G} {ca : Nat → ClassId} {ad : Nat → Int → Nat → Nat} {L : List Nat} {aS vS : Nat → Nat} {A : Nat → Prop} {p : Program} {l : Launch} {e : Env} {s : State} {m : MethodId} {args : Array Value} {below : List Frame} {meth : Method} {c : Code} {K : Nat} {r : Int} {F9 : zF} {B9 : zB} (X : zX D ca L aS vS A p s m args meth c prog_15_method_140_code 7 (Option.some Jvm.ClassFile.FieldType.int) "StaveHouseModel")  {F : zF} {B : zB} {H : Heap} {locs : List Loc} {ls : Array Slot} (hf : f_M_open_198 K  F B = some (r, F9, B9)) (hZ : zH D ca ad lnM nM L F B A H) (hS : va_S A s.heap H locs) (hl : lv_has ls 7 [(0, .ref (ad 14 0 0))]) : W p l e ({ frames := 6, cells := 0, slots := 0, locals := 133 } : Room) s m args below meth c H locs 0 0 (MQ below (Q_M_open D ca ad L r F9 B9 A) args s 0 0 A) (F0 m 198 ls []) := by
  obtain ⟨hx, hb, hr, hml, hown, hts, hlk, hK, hA, hL, hX⟩ := id X
  replace hf : (zbind (f_M_good K (zup3 F 14 0 3 0) B) (fun r44 F44 B44 => if r32 r44 then (if r44 = 0 then some ((F44 14 0 17) + (16 * (F44 14 0 18)), F44, B44) else zbind (f_M_keep K F44 (zup4 B44 14 0 74 7 (F44 14 0 94))) (fun r48 F48 B48 => some (0, F48, B48))) else none)) = some (r, F9, B9) := hf
  refine lv_aload_n hx hb (D_42 W_prog_15_method_140_code_192 6 rfl rfl) rfl (lv_at hl 0 rfl) ?_
  refine lv_iconst (v := iI 0) hx hb (D_3 W_prog_15_method_140_code_192 7 rfl rfl) rfl ?_
  refine zput (ci := 14) (C := RX14) (T := TX14) (k := 3) (v := 0) (w := .int (iI 0)) hx hb hts inW_14 tyX14 tyX14_ok nmX14 hown hK hZ hS (by decide) (by decide) rfl (by decide) k_11_1 rfl (fun G h => congrArg (fun q => Value.int (iI q)) h) rfl rfl (zno (by decide)) (D_181 W_prog_15_method_140_code_192 8 rfl rfl rfl) (fun H43 locs43 hZ43 hS43 => ?_)
  refine lv_aload_n hx hb (D_42 W_prog_15_method_140_code_192 11 rfl rfl) rfl (lv_at hl 0 rfl) ?_
  obtain ⟨r44, F44, B44, hc44, hf⟩ := gbind hf
  refine va_calli (va_runV (As := []) (rest := []) ⟨hx, hb, hml, hown, hts⟩ (c_M_good (l := l) hc44) (cwV 0 hts (gdV k_13_15 k_13_17 ks_152 k_1_9 k_13_18) rfl rfl rfl (by decide +kernel) ⟨Nat.le_of_ble_eq_true rfl, Nat.le_of_ble_eq_true rfl⟩) (zPV X hZ43 hS43 (ci := 14) (by decide) (by decide) (r := (RX14, TX14, 107)) rfl []) rfl rfl hl.1 rfl (lv_room (Nat.le_of_ble_eq_true rfl)) (D_182 W_prog_15_method_140_code_192 12 rfl rfl rfl) ⟨Nat.le_of_ble_eq_true rfl, Nat.le_of_ble_eq_true rfl⟩) hS43 (fun q _ h => zAin X hS43 q h) (zAin X hS43) (fun p44 u44 t44 H44 locs44 ht44 hv44 hw44 hB44 hz44 hk44 hS44 => ?_)
  have hZ44 := zBack X ht44 hB44
  subst hw44
  obtain ⟨g45, hf⟩ := gif hf
  refine z0ne (tgt := 223) hx hb g45 (D_154 W_prog_15_method_140_code_192 15 rfl rfl rfl) (by decide) (fun h46 => ?_) (fun h46 => ?_)
  · replace hf := gneg hf h46
    refine lv_aload_n hx hb (D_42 W_prog_15_method_140_code_192 31 rfl rfl) rfl (lv_at hl 0 rfl) ?_
    refine zget (ci := 14) (C := RX14) (T := TX14) (v := .ref (ad 14 0 (74 + 1))) (k := 74) hx hb hts inW_14 hown hK hZ44 (by decide) (by decide) rfl (by decide) k_11_72 rfl (D_180 W_prog_15_method_140_code_224 0 rfl rfl rfl) ?_
    refine lv_bipush (v := iI 7) hx hb (D_16 W_prog_15_method_140_code_224 3 rfl rfl rfl) (by decide) ?_
    refine lv_aload_n hx hb (D_42 W_prog_15_method_140_code_224 5 rfl rfl) rfl (lv_at hl 0 rfl) ?_
    refine zget (ci := 14) (C := RX14) (T := TX14) (v := .int (iI (F44 14 0 94))) (k := 94) hx hb hts inW_14 hown hK hZ44 (by decide) (by decide) rfl (by decide) k_11_92 rfl (D_180 W_prog_15_method_140_code_224 6 rfl rfl rfl) ?_
    refine zast (ci := 14) (k := 74) hx hb hK rfl hZ44 hS44 (by decide) (by decide) rfl (Nat.le_of_ble_eq_true rfl) (by decide) (by decide) (D_79 W_prog_15_method_140_code_224 9 rfl rfl) (fun H47 locs47 hZ47 hS47 => ?_)
    refine lv_aload_n hx hb (D_42 W_prog_15_method_140_code_224 10 rfl rfl) rfl (lv_at hl 0 rfl) ?_
    obtain ⟨r48, F48, B48, hc48, hf⟩ := gbind hf
    refine va_callv (va_runV (As := []) (rest := []) ⟨hx, hb, hml, hown, hts⟩ (c_M_keep (l := l) hc48) (cwV 0 hts (gdV k_13_60 k_13_62 ks_163 k_1_9 k_13_63) rfl rfl rfl (by decide +kernel) ⟨Nat.le_of_ble_eq_true rfl, Nat.le_of_ble_eq_true rfl⟩) (zPV X hZ47 hS47 (ci := 14) (by decide) (by decide) (r := (RX14, TX14, 107)) rfl []) rfl rfl hl.1 rfl (lv_room (Nat.le_of_ble_eq_true rfl)) (D_182 W_prog_15_method_140_code_224 11 rfl rfl rfl) ⟨Nat.le_of_ble_eq_true rfl, Nat.le_of_ble_eq_true rfl⟩) hS47 (fun q _ h => zAin X hS47 q h) (zAin X hS47) (fun u48 t48 H48 locs48 ht48 hv48 hw48 hB48 hz48 hk48 hS48 => ?_)
    have hZ48 := zBack X ht48 hB48
    refine lv_iconst (v := iI 0) hx hb (D_3 W_prog_15_method_140_code_224 14 rfl rfl) rfl ?_
    cases hf
    exact W.iret hx hb hr (fun t ht hW => ⟨⟨_, (), rfl, rfl, by rw [ht]; exact hZ48, va_K.moved hW.alike hK⟩, hS48.F ht⟩) hS48.2.2 (D_172 W_prog_15_method_140_code_224 15 rfl rfl) hlk
  · replace hf := gpos hf h46
    refine lv_aload_n hx hb (D_42 W_prog_15_method_140_code_192 18 rfl rfl) rfl (lv_at hl 0 rfl) ?_
    refine zget (ci := 14) (C := RX14) (T := TX14) (v := .int (iI (F44 14 0 17))) (k := 17) hx hb hts inW_14 hown hK hZ44 (by decide) (by decide) rfl (by decide) k_11_15 rfl (D_180 W_prog_15_method_140_code_192 19 rfl rfl rfl) ?_
    refine lv_bipush (v := iI 16) hx hb (D_16 W_prog_15_method_140_code_192 22 rfl rfl rfl) (by decide) ?_
    refine lv_aload_n hx hb (D_42 W_prog_15_method_140_code_192 24 rfl rfl) rfl (lv_at hl 0 rfl) ?_
    refine zget (ci := 14) (C := RX14) (T := TX14) (v := .int (iI (F44 14 0 18))) (k := 18) hx hb hts inW_14 hown hK hZ44 (by decide) (by decide) rfl (by decide) k_11_16 rfl (D_180 W_prog_15_method_140_code_192 25 rfl rfl rfl) ?_
    refine zmul hx hb (D_104 W_prog_15_method_140_code_192 28 rfl rfl) ?_
    refine zadd hx hb (D_96 W_prog_15_method_140_code_192 29 rfl rfl) ?_
    cases hf
    exact W.iret hx hb hr (fun t ht hW => ⟨⟨_, (), rfl, rfl, by rw [ht]; exact hZ44, va_K.moved hW.alike hK⟩, hS44.F ht⟩) hS44.2.2 (D_172 W_prog_15_method_140_code_192 30 rfl rfl) hlk

def f_M_open_195 (rec81 : Int → Int → zF → zB → zO) (K : Nat) (l1 : Int) (l3 : Int) (F : zF) (B : zB) : zO := rec81 l3 l1 F B
set_option maxHeartbeats 4000000 in
set_option maxRecDepth 100000 in
theorem b_M_open_195 {D : va_G} {ca : Nat → ClassId} {ad : Nat → Int → Nat → Nat} {L : List Nat} {aS vS : Nat → Nat} {A : Nat → Prop} {p : Program} {l : Launch} {e : Env} {s : State} {m : MethodId} {args : Array Value} {below : List Frame} {meth : Method} {c : Code} {K : Nat} {r : Int} {F9 : zF} {B9 : zB} (X : zX D ca L aS vS A p s m args meth c prog_15_method_140_code 7 (Option.some Jvm.ClassFile.FieldType.int) "StaveHouseModel") {rec81 : Int → Int → zF → zB → zO} (hrec81 : ∀ {l3 : Int} {l1 : Int} {F : zF} {B : zB} {H : Heap} {locs : List Loc} {ls : Array Slot}, rec81 l3 l1 F B = some (r, F9, B9) → zH D ca ad lnM nM L F B A H → va_S A s.heap H locs → lv_has ls 7 [(3, .int (iI l3)), (1, .long (lI l1)), (0, .ref (ad 14 0 0))] → W p l e ({ frames := 6, cells := 0, slots := 0, locals := 133 } : Room) s m args below meth c H locs 0 0 (MQ below (Q_M_open D ca ad L r F9 B9 A) args s 0 0 A) (F0 m 81 ls [])) {l1 : Int} {l3 : Int} {F : zF} {B : zB} {H : Heap} {locs : List Loc} {ls : Array Slot} (hf : f_M_open_195 rec81 K l1 l3 F B = some (r, F9, B9)) (hZ : zH D ca ad lnM nM L F B A H) (hS : va_S A s.heap H locs) (hl : lv_has ls 7 [(1, .long (lI l1)), (3, .int (iI l3)), (0, .ref (ad 14 0 0))]) : W p l e ({ frames := 6, cells := 0, slots := 0, locals := 133 } : Room) s m args below meth c H locs 0 0 (MQ below (Q_M_open D ca ad L r F9 B9 A) args s 0 0 A) (F0 m 195 ls []) := by
  obtain ⟨hx, hb, hr, hml, hown, hts, hlk, hK, hA, hL, hX⟩ := id X
  replace hf : (rec81 l3 l1 F B) = some (r, F9, B9) := hf
  refine lv_goto (tgt := 81) hx hb (D_167 W_prog_15_method_140_code_192 3 rfl rfl rfl) (by decide) ?_
  exact hrec81 hf hZ hS (lv_sub hl [1, 0, 2] rfl)

def f_M_open_176 (rec81 : Int → Int → zF → zB → zO) (K : Nat) (l1 : Int) (l3 : Int) (F : zF) (B : zB) : zO := if r32 (F 14 0 3) then if r64 l1 then if r64 (F 14 0 3) then (if (zcmp l1 (F 14 0 3)) ≤ 0 then f_M_open_195 rec81 K l1 l3 F B else zbind (f_M_failByte K 2 (F 14 0 3) F B) (fun r42 F42 B42 => f_M_open_195 rec81 K l1 l3 F42 B42)) else none else none else none
set_option maxHeartbeats 4000000 in
set_option maxRecDepth 100000 in
theorem b_M_open_176 {D : va_G} {ca : Nat → ClassId} {ad : Nat → Int → Nat → Nat} {L : List Nat} {aS vS : Nat → Nat} {A : Nat → Prop} {p : Program} {l : Launch} {e : Env} {s : State} {m : MethodId} {args : Array Value} {below : List Frame} {meth : Method} {c : Code} {K : Nat} {r : Int} {F9 : zF} {B9 : zB} (X : zX D ca L aS vS A p s m args meth c prog_15_method_140_code 7 (Option.some Jvm.ClassFile.FieldType.int) "StaveHouseModel") {rec81 : Int → Int → zF → zB → zO} (hrec81 : ∀ {l3 : Int} {l1 : Int} {F : zF} {B : zB} {H : Heap} {locs : List Loc} {ls : Array Slot}, rec81 l3 l1 F B = some (r, F9, B9) → zH D ca ad lnM nM L F B A H → va_S A s.heap H locs → lv_has ls 7 [(3, .int (iI l3)), (1, .long (lI l1)), (0, .ref (ad 14 0 0))] → W p l e ({ frames := 6, cells := 0, slots := 0, locals := 133 } : Room) s m args below meth c H locs 0 0 (MQ below (Q_M_open D ca ad L r F9 B9 A) args s 0 0 A) (F0 m 81 ls [])) {l1 : Int} {l3 : Int} {F : zF} {B : zB} {H : Heap} {locs : List Loc} {ls : Array Slot} (hf : f_M_open_176 rec81 K l1 l3 F B = some (r, F9, B9)) (hZ : zH D ca ad lnM nM L F B A H) (hS : va_S A s.heap H locs) (hl : lv_has ls 7 [(1, .long (lI l1)), (3, .int (iI l3)), (0, .ref (ad 14 0 0))]) : W p l e ({ frames := 6, cells := 0, slots := 0, locals := 133 } : Room) s m args below meth c H locs 0 0 (MQ below (Q_M_open D ca ad L r F9 B9 A) args s 0 0 A) (F0 m 176 ls []) := by
  obtain ⟨hx, hb, hr, hml, hown, hts, hlk, hK, hA, hL, hX⟩ := id X
  replace hf : (if r32 (F 14 0 3) then if r64 l1 then if r64 (F 14 0 3) then (if (zcmp l1 (F 14 0 3)) ≤ 0 then f_M_open_195 rec81 K l1 l3 F B else zbind (f_M_failByte K 2 (F 14 0 3) F B) (fun r42 F42 B42 => f_M_open_195 rec81 K l1 l3 F42 B42)) else none else none else none) = some (r, F9, B9) := hf
  refine lv_lload_n hx hb (D_31 W_prog_15_method_140_code_160 16 rfl rfl) rfl (lv_at hl 0 rfl) ?_
  refine lv_aload_n hx hb (D_42 W_prog_15_method_140_code_160 17 rfl rfl) rfl (lv_at hl 2 rfl) ?_
  refine zget (ci := 14) (C := RX14) (T := TX14) (v := .int (iI (F 14 0 3))) (k := 3) hx hb hts inW_14 hown hK hZ (by decide) (by decide) rfl (by decide) k_11_1 rfl (D_180 W_prog_15_method_140_code_160 18 rfl rfl rfl) ?_
  obtain ⟨g38, hf⟩ := gif hf
  refine zi2l hx hb g38 (D_133 W_prog_15_method_140_code_160 21 rfl rfl) ?_
  obtain ⟨g39, hf⟩ := gif hf
  obtain ⟨g40, hf⟩ := gif hf
  refine zcmp_r hx hb g39 g40 (D_148 W_prog_15_method_140_code_160 22 rfl rfl) ?_
  refine z0le (tgt := 195) hx hb zcmp_32 (D_158 W_prog_15_method_140_code_160 23 rfl rfl rfl) (by decide) (fun h41 => ?_) (fun h41 => ?_)
  · replace hf := gpos hf h41
    exact b_M_open_195 X hrec81 hf hZ hS (lv_sub hl [0, 1, 2] rfl)
  · replace hf := gneg hf h41
    refine lv_aload_n hx hb (D_42 W_prog_15_method_140_code_160 26 rfl rfl) rfl (lv_at hl 2 rfl) ?_
    refine lv_iconst (v := iI 2) hx hb (D_5 W_prog_15_method_140_code_160 27 rfl rfl) rfl ?_
    refine lv_aload_n hx hb (D_42 W_prog_15_method_140_code_160 28 rfl rfl) rfl (lv_at hl 2 rfl) ?_
    refine zget (ci := 14) (C := RX14) (T := TX14) (v := .int (iI (F 14 0 3))) (k := 3) hx hb hts inW_14 hown hK hZ (by decide) (by decide) rfl (by decide) k_11_1 rfl (D_180 W_prog_15_method_140_code_160 29 rfl rfl rfl) ?_
    obtain ⟨r42, F42, B42, hc42, hf⟩ := gbind hf
    refine va_callv (va_runV (As := [.int (iI 2), .int (iI (F 14 0 3))]) (rest := []) ⟨hx, hb, hml, hown, hts⟩ (c_M_failByte (l := l) hc42) (cwV 2 hts (gdV k_13_19 k_13_21 ks_153 k_1_9 k_13_22) rfl rfl rfl (by decide +kernel) ⟨Nat.le_of_ble_eq_true rfl, Nat.le_of_ble_eq_true rfl⟩) (zPV X hZ hS (ci := 14) (by decide) (by decide) (r := (RX14, TX14, 107)) rfl [.int (iI 2), .int (iI (F 14 0 3))]) rfl rfl hl.1 rfl (lv_room (Nat.le_of_ble_eq_true rfl)) (D_182 W_prog_15_method_140_code_192 0 rfl rfl rfl) ⟨Nat.le_of_ble_eq_true rfl, Nat.le_of_ble_eq_true rfl⟩) hS (fun q _ h => zAin X hS q h) (zAin X hS) (fun u42 t42 H42 locs42 ht42 hv42 hw42 hB42 hz42 hk42 hS42 => ?_)
    have hZ42 := zBack X ht42 hB42
    exact b_M_open_195 X hrec81 hf hZ42 hS42 (lv_sub hl [0, 1, 2] rfl)

def f_M_open_118 (rec81 : Int → Int → zF → zB → zO) (K : Nat) (l3 : Int) (s1 : Int) (F : zF) (B : zB) : zO := if r32 s1 then zbind (f_M_isTrack K (zup3 (zup3 F 14 0 89 s1) 14 0 90 3000) B) (fun r27 F27 B27 => zbind (f_M_whole K 4 F27 B27) (fun r28 F28 B28 => if r32 (F28 14 0 89) then zbind (f_M_good K F28 B28) (fun r30 F30 B30 => if r32 r30 then (if r30 = 0 then f_M_open_176 rec81 K ((F28 14 0 89) + r28) l3 F30 B30 else if r32 r27 then (if r27 = 0 then f_M_open_176 rec81 K ((F28 14 0 89) + r28) l3 F30 B30 else zbind (f_M_track0 K l3 (zup3 F30 14 0 90 ((F28 14 0 89) + r28)) B30) (fun r37 F37 B37 => f_M_open_176 rec81 K ((F28 14 0 89) + r28) (l3 + 1) F37 B37)) else none) else none) else none)) else none
set_option maxHeartbeats 4000000 in
set_option maxRecDepth 100000 in
theorem b_M_open_118 {D : va_G} {ca : Nat → ClassId} {ad : Nat → Int → Nat → Nat} {L : List Nat} {aS vS : Nat → Nat} {A : Nat → Prop} {p : Program} {l : Launch} {e : Env} {s : State} {m : MethodId} {args : Array Value} {below : List Frame} {meth : Method} {c : Code} {K : Nat} {r : Int} {F9 : zF} {B9 : zB} (X : zX D ca L aS vS A p s m args meth c prog_15_method_140_code 7 (Option.some Jvm.ClassFile.FieldType.int) "StaveHouseModel") {rec81 : Int → Int → zF → zB → zO} (hrec81 : ∀ {l3 : Int} {l1 : Int} {F : zF} {B : zB} {H : Heap} {locs : List Loc} {ls : Array Slot}, rec81 l3 l1 F B = some (r, F9, B9) → zH D ca ad lnM nM L F B A H → va_S A s.heap H locs → lv_has ls 7 [(3, .int (iI l3)), (1, .long (lI l1)), (0, .ref (ad 14 0 0))] → W p l e ({ frames := 6, cells := 0, slots := 0, locals := 133 } : Room) s m args below meth c H locs 0 0 (MQ below (Q_M_open D ca ad L r F9 B9 A) args s 0 0 A) (F0 m 81 ls [])) {l3 : Int} {s1 : Int} {F : zF} {B : zB} {H : Heap} {locs : List Loc} {ls : Array Slot} (hf : f_M_open_118 rec81 K l3 s1 F B = some (r, F9, B9)) (hZ : zH D ca ad lnM nM L F B A H) (hS : va_S A s.heap H locs) (hl : lv_has ls 7 [(3, .int (iI l3)), (0, .ref (ad 14 0 0))]) : W p l e ({ frames := 6, cells := 0, slots := 0, locals := 133 } : Room) s m args below meth c H locs 0 0 (MQ below (Q_M_open D ca ad L r F9 B9 A) args s 0 0 A) (F0 m 118 ls [.long (lI s1), .ref (ad 14 0 0)]) := by
  obtain ⟨hx, hb, hr, hml, hown, hts, hlk, hK, hA, hL, hX⟩ := id X
  replace hf : (if r32 s1 then zbind (f_M_isTrack K (zup3 (zup3 F 14 0 89 s1) 14 0 90 3000) B) (fun r27 F27 B27 => zbind (f_M_whole K 4 F27 B27) (fun r28 F28 B28 => if r32 (F28 14 0 89) then zbind (f_M_good K F28 B28) (fun r30 F30 B30 => if r32 r30 then (if r30 = 0 then f_M_open_176 rec81 K ((F28 14 0 89) + r28) l3 F30 B30 else if r32 r27 then (if r27 = 0 then f_M_open_176 rec81 K ((F28 14 0 89) + r28) l3 F30 B30 else zbind (f_M_track0 K l3 (zup3 F30 14 0 90 ((F28 14 0 89) + r28)) B30) (fun r37 F37 B37 => f_M_open_176 rec81 K ((F28 14 0 89) + r28) (l3 + 1) F37 B37)) else none) else none) else none)) else none) = some (r, F9, B9) := hf
  obtain ⟨g24, hf⟩ := gif hf
  refine zl2i hx hb g24 (D_136 W_prog_15_method_140_code_96 22 rfl rfl) ?_
  refine zput (ci := 14) (C := RX14) (T := TX14) (k := 89) (v := s1) (w := .int (iI s1)) hx hb hts inW_14 tyX14 tyX14_ok nmX14 hown hK hZ hS (by decide) (by decide) rfl (by decide) k_11_87 rfl (fun G h => congrArg (fun q => Value.int (iI q)) h) rfl rfl (zno (by decide)) (D_181 W_prog_15_method_140_code_96 23 rfl rfl rfl) (fun H25 locs25 hZ25 hS25 => ?_)
  refine lv_aload_n hx hb (D_42 W_prog_15_method_140_code_96 26 rfl rfl) rfl (lv_at hl 1 rfl) ?_
  refine lv_ldc2 hx hb hown (hts _ k_13_2) (D_20 W_prog_15_method_140_code_96 27 rfl rfl rfl) ?_
  refine W.eq (g2 := F0 m 126 ls [.long (lI 3000), .ref (ad 14 0 0)]) rfl ?_
  refine zput (ci := 14) (C := RX14) (T := TX14) (k := 90) (v := 3000) (w := .long (lI 3000)) hx hb hts inW_14 tyX14 tyX14_ok nmX14 hown hK hZ25 hS25 (by decide) (by decide) rfl (by decide) k_11_88 rfl (fun G h => congrArg (fun q => Value.long (lI q)) h) rfl rfl (zno (by decide)) (D_181 W_prog_15_method_140_code_96 30 rfl rfl rfl) (fun H26 locs26 hZ26 hS26 => ?_)
  refine lv_aload_n hx hb (D_42 W_prog_15_method_140_code_128 1 rfl rfl) rfl (lv_at hl 1 rfl) ?_
  obtain ⟨r27, F27, B27, hc27, hf⟩ := gbind hf
  refine va_calli (va_runV (As := []) (rest := []) ⟨hx, hb, hml, hown, hts⟩ (c_M_isTrack (l := l) hc27) (cwV 0 hts (gdV k_13_36 k_13_38 ks_157 k_1_9 k_13_39) rfl rfl rfl (by decide +kernel) ⟨Nat.le_of_ble_eq_true rfl, Nat.le_of_ble_eq_true rfl⟩) (zPV X hZ26 hS26 (ci := 14) (by decide) (by decide) (r := (RX14, TX14, 107)) rfl []) rfl rfl hl.1 rfl (lv_room (Nat.le_of_ble_eq_true rfl)) (D_182 W_prog_15_method_140_code_128 2 rfl rfl rfl) ⟨Nat.le_of_ble_eq_true rfl, Nat.le_of_ble_eq_true rfl⟩) hS26 (fun q _ h => zAin X hS26 q h) (zAin X hS26) (fun p27 u27 t27 H27 locs27 ht27 hv27 hw27 hB27 hz27 hk27 hS27 => ?_)
  have hZ27 := zBack X ht27 hB27
  subst hw27
  refine lv_istore (lv' := [(4, .int (iI r27)), (3, .int (iI l3)), (0, .ref (ad 14 0 0))]) hx hb (D_54 W_prog_15_method_140_code_128 5 rfl rfl) hl (by decide) rfl (fun ls hl => ?_)
  refine lv_aload_n hx hb (D_42 W_prog_15_method_140_code_128 7 rfl rfl) rfl (lv_at hl 2 rfl) ?_
  refine lv_iconst (v := iI 4) hx hb (D_7 W_prog_15_method_140_code_128 8 rfl rfl) rfl ?_
  obtain ⟨r28, F28, B28, hc28, hf⟩ := gbind hf
  refine va_calll (va_runV (As := [.int (iI 4)]) (rest := []) ⟨hx, hb, hml, hown, hts⟩ (c_M_whole (l := l) hc28) (cwV 1 hts (gdV k_13_27 k_13_29 ks_155 k_1_9 k_13_30) rfl rfl rfl (by decide +kernel) ⟨Nat.le_of_ble_eq_true rfl, Nat.le_of_ble_eq_true rfl⟩) (zPV X hZ27 hS27 (ci := 14) (by decide) (by decide) (r := (RX14, TX14, 107)) rfl [.int (iI 4)]) rfl rfl hl.1 rfl (lv_room (Nat.le_of_ble_eq_true rfl)) (D_182 W_prog_15_method_140_code_128 9 rfl rfl rfl) ⟨Nat.le_of_ble_eq_true rfl, Nat.le_of_ble_eq_true rfl⟩) hS27 (fun q _ h => zAin X hS27 q h) (zAin X hS27) (fun p28 u28 t28 H28 locs28 ht28 hv28 hw28 hB28 hz28 hk28 hS28 => ?_)
  have hZ28 := zBack X ht28 hB28
  subst hw28
  refine lv_lstore (lv' := [(5, .long (lI r28)), (4, .int (iI r27)), (3, .int (iI l3)), (0, .ref (ad 14 0 0))]) hx hb (D_55 W_prog_15_method_140_code_128 12 rfl rfl) hl (by decide) rfl (fun ls hl => ?_)
  refine lv_aload_n hx hb (D_42 W_prog_15_method_140_code_128 14 rfl rfl) rfl (lv_at hl 3 rfl) ?_
  refine zget (ci := 14) (C := RX14) (T := TX14) (v := .int (iI (F28 14 0 89))) (k := 89) hx hb hts inW_14 hown hK hZ28 (by decide) (by decide) rfl (by decide) k_11_87 rfl (D_180 W_prog_15_method_140_code_128 15 rfl rfl rfl) ?_
  obtain ⟨g29, hf⟩ := gif hf
  refine zi2l hx hb g29 (D_133 W_prog_15_method_140_code_128 18 rfl rfl) ?_
  refine lv_lload hx hb (D_22 W_prog_15_method_140_code_128 19 rfl rfl) (lv_at hl 0 rfl) ?_
  refine zladd hx hb (D_97 W_prog_15_method_140_code_128 21 rfl rfl) ?_
  refine lv_lstore_n (lv' := [(1, .long (lI ((F28 14 0 89) + r28))), (5, .long (lI r28)), (4, .int (iI r27)), (3, .int (iI l3)), (0, .ref (ad 14 0 0))]) hx hb (D_64 W_prog_15_method_140_code_128 22 rfl rfl) rfl hl (by decide) rfl (fun ls hl => ?_)
  refine lv_aload_n hx hb (D_42 W_prog_15_method_140_code_128 23 rfl rfl) rfl (lv_at hl 4 rfl) ?_
  obtain ⟨r30, F30, B30, hc30, hf⟩ := gbind hf
  refine va_calli (va_runV (As := []) (rest := []) ⟨hx, hb, hml, hown, hts⟩ (c_M_good (l := l) hc30) (cwV 0 hts (gdV k_13_15 k_13_17 ks_152 k_1_9 k_13_18) rfl rfl rfl (by decide +kernel) ⟨Nat.le_of_ble_eq_true rfl, Nat.le_of_ble_eq_true rfl⟩) (zPV X hZ28 hS28 (ci := 14) (by decide) (by decide) (r := (RX14, TX14, 107)) rfl []) rfl rfl hl.1 rfl (lv_room (Nat.le_of_ble_eq_true rfl)) (D_182 W_prog_15_method_140_code_128 24 rfl rfl rfl) ⟨Nat.le_of_ble_eq_true rfl, Nat.le_of_ble_eq_true rfl⟩) hS28 (fun q _ h => zAin X hS28 q h) (zAin X hS28) (fun p30 u30 t30 H30 locs30 ht30 hv30 hw30 hB30 hz30 hk30 hS30 => ?_)
  have hZ30 := zBack X ht30 hB30
  subst hw30
  obtain ⟨g31, hf⟩ := gif hf
  refine z0eq (tgt := 176) hx hb g31 (D_153 W_prog_15_method_140_code_128 27 rfl rfl rfl) (by decide) (fun h33 => ?_) (fun h33 => ?_)
  · replace hf := gpos hf h33
    exact b_M_open_176 X hrec81 hf hZ30 hS30 (lv_sub hl [0, 3, 4] rfl)
  · replace hf := gneg hf h33
    refine lv_iload hx hb (D_21 W_prog_15_method_140_code_128 30 rfl rfl) (lv_at hl 2 rfl) ?_
    obtain ⟨g34, hf⟩ := gif hf
    refine z0eq (tgt := 176) hx hb g34 (D_153 W_prog_15_method_140_code_160 0 rfl rfl rfl) (by decide) (fun h35 => ?_) (fun h35 => ?_)
    · replace hf := gpos hf h35
      exact b_M_open_176 X hrec81 hf hZ30 hS30 (lv_sub hl [0, 3, 4] rfl)
    · replace hf := gneg hf h35
      refine lv_aload_n hx hb (D_42 W_prog_15_method_140_code_160 3 rfl rfl) rfl (lv_at hl 4 rfl) ?_
      refine lv_lload_n hx hb (D_31 W_prog_15_method_140_code_160 4 rfl rfl) rfl (lv_at hl 0 rfl) ?_
      refine zput (ci := 14) (C := RX14) (T := TX14) (k := 90) (v := ((F28 14 0 89) + r28)) (w := .long (lI ((F28 14 0 89) + r28))) hx hb hts inW_14 tyX14 tyX14_ok nmX14 hown hK hZ30 hS30 (by decide) (by decide) rfl (by decide) k_11_88 rfl (fun G h => congrArg (fun q => Value.long (lI q)) h) rfl rfl (zno (by decide)) (D_181 W_prog_15_method_140_code_160 5 rfl rfl rfl) (fun H36 locs36 hZ36 hS36 => ?_)
      refine lv_aload_n hx hb (D_42 W_prog_15_method_140_code_160 8 rfl rfl) rfl (lv_at hl 4 rfl) ?_
      refine lv_iload_n hx hb (D_29 W_prog_15_method_140_code_160 9 rfl rfl) rfl (lv_at hl 3 rfl) ?_
      obtain ⟨r37, F37, B37, hc37, hf⟩ := gbind hf
      refine va_callv (va_runV (As := [.int (iI l3)]) (rest := []) ⟨hx, hb, hml, hown, hts⟩ (c_M_track0 (l := l) hc37) (cwV 1 hts (gdV k_13_40 k_13_42 ks_158 k_1_9 k_13_43) rfl rfl rfl (by decide +kernel) ⟨Nat.le_of_ble_eq_true rfl, Nat.le_of_ble_eq_true rfl⟩) (zPV X hZ36 hS36 (ci := 14) (by decide) (by decide) (r := (RX14, TX14, 107)) rfl [.int (iI l3)]) rfl rfl hl.1 rfl (lv_room (Nat.le_of_ble_eq_true rfl)) (D_182 W_prog_15_method_140_code_160 10 rfl rfl rfl) ⟨Nat.le_of_ble_eq_true rfl, Nat.le_of_ble_eq_true rfl⟩) hS36 (fun q _ h => zAin X hS36 q h) (zAin X hS36) (fun u37 t37 H37 locs37 ht37 hv37 hw37 hB37 hz37 hk37 hS37 => ?_)
      have hZ37 := zBack X ht37 hB37
      refine lv_iinc (v := iI (l3 + 1)) (lv' := [(3, .int (iI (l3 + 1))), (1, .long (lI ((F28 14 0 89) + r28))), (5, .long (lI r28)), (4, .int (iI r27)), (0, .ref (ad 14 0 0))]) hx hb d_15_140_173 hl (k := 3) rfl (iI_add _ 1) (by decide) rfl (fun ls hl => ?_)
      exact b_M_open_176 X hrec81 hf hZ37 hS37 (lv_sub hl [1, 0, 4] rfl)

def f_M_open_81 (K : Nat) : Nat → Int → Int → zF → zB → zO
  | 0, _, _, _, _ => none
  | n + 1, l3, l1, F, B => zbind (f_M_good K F B) (fun r14 F14 B14 => if r32 r14 then (if r14 = 0 then f_M_open_198 K F14 B14 else if r32 l3 then if r32 (B14 14 0 74 0) then (if (B14 14 0 74 0) ≤ l3 then f_M_open_198 K F14 B14 else if r32 (F14 14 0 3) then if r64 l1 then if r64 (F14 14 0 3) then (if 0 ≤ (zcmp l1 (F14 14 0 3)) then f_M_open_118 (f_M_open_81 K n) K l3 (F14 14 0 3) F14 B14 else f_M_open_118 (f_M_open_81 K n) K l3 l1 F14 B14) else none else none else none) else none else none) else none)
set_option maxHeartbeats 4000000 in
set_option maxRecDepth 100000 in
theorem b_M_open_81 {D : va_G} {ca : Nat → ClassId} {ad : Nat → Int → Nat → Nat} {L : List Nat} {aS vS : Nat → Nat} {A : Nat → Prop} {p : Program} {l : Launch} {e : Env} {s : State} {m : MethodId} {args : Array Value} {below : List Frame} {meth : Method} {c : Code} {K : Nat} {r : Int} {F9 : zF} {B9 : zB} (X : zX D ca L aS vS A p s m args meth c prog_15_method_140_code 7 (Option.some Jvm.ClassFile.FieldType.int) "StaveHouseModel") : ∀ {n : Nat} {l3 : Int} {l1 : Int} {F : zF} {B : zB} {H : Heap} {locs : List Loc} {ls : Array Slot}, f_M_open_81 K n l3 l1 F B = some (r, F9, B9) → zH D ca ad lnM nM L F B A H → va_S A s.heap H locs → lv_has ls 7 [(3, .int (iI l3)), (1, .long (lI l1)), (0, .ref (ad 14 0 0))] → W p l e ({ frames := 6, cells := 0, slots := 0, locals := 133 } : Room) s m args below meth c H locs 0 0 (MQ below (Q_M_open D ca ad L r F9 B9 A) args s 0 0 A) (F0 m 81 ls []) := by
  obtain ⟨hx, hb, hr, hml, hown, hts, hlk, hK, hA, hL, hX⟩ := id X
  intro n
  induction n with
  | zero =>
    intros
    rename_i hf _ _ _
    cases hf
  | succ n ih =>
    intro l3 l1 F B H locs ls hf hZ hS hl
    replace hf : (zbind (f_M_good K F B) (fun r14 F14 B14 => if r32 r14 then (if r14 = 0 then f_M_open_198 K F14 B14 else if r32 l3 then if r32 (B14 14 0 74 0) then (if (B14 14 0 74 0) ≤ l3 then f_M_open_198 K F14 B14 else if r32 (F14 14 0 3) then if r64 l1 then if r64 (F14 14 0 3) then (if 0 ≤ (zcmp l1 (F14 14 0 3)) then f_M_open_118 (f_M_open_81 K n) K l3 (F14 14 0 3) F14 B14 else f_M_open_118 (f_M_open_81 K n) K l3 l1 F14 B14) else none else none else none) else none else none) else none)) = some (r, F9, B9) := hf
    refine lv_aload_n hx hb (D_42 W_prog_15_method_140_code_64 17 rfl rfl) rfl (lv_at hl 2 rfl) ?_
    obtain ⟨r14, F14, B14, hc14, hf⟩ := gbind hf
    refine va_calli (va_runV (As := []) (rest := []) ⟨hx, hb, hml, hown, hts⟩ (c_M_good (l := l) hc14) (cwV 0 hts (gdV k_13_15 k_13_17 ks_152 k_1_9 k_13_18) rfl rfl rfl (by decide +kernel) ⟨Nat.le_of_ble_eq_true rfl, Nat.le_of_ble_eq_true rfl⟩) (zPV X hZ hS (ci := 14) (by decide) (by decide) (r := (RX14, TX14, 107)) rfl []) rfl rfl hl.1 rfl (lv_room (Nat.le_of_ble_eq_true rfl)) (D_182 W_prog_15_method_140_code_64 18 rfl rfl rfl) ⟨Nat.le_of_ble_eq_true rfl, Nat.le_of_ble_eq_true rfl⟩) hS (fun q _ h => zAin X hS q h) (zAin X hS) (fun p14 u14 t14 H14 locs14 ht14 hv14 hw14 hB14 hz14 hk14 hS14 => ?_)
    have hZ14 := zBack X ht14 hB14
    subst hw14
    obtain ⟨g15, hf⟩ := gif hf
    refine z0eq (tgt := 198) hx hb g15 (D_153 W_prog_15_method_140_code_64 21 rfl rfl rfl) (by decide) (fun h16 => ?_) (fun h16 => ?_)
    · replace hf := gpos hf h16
      exact b_M_open_198 X hf hZ14 hS14 (lv_sub hl [2] rfl)
    · replace hf := gneg hf h16
      refine lv_iload_n hx hb (D_29 W_prog_15_method_140_code_64 24 rfl rfl) rfl (lv_at hl 0 rfl) ?_
      refine lv_aload_n hx hb (D_42 W_prog_15_method_140_code_64 25 rfl rfl) rfl (lv_at hl 2 rfl) ?_
      refine zget (ci := 14) (C := RX14) (T := TX14) (v := .ref (ad 14 0 (74 + 1))) (k := 74) hx hb hts inW_14 hown hK hZ14 (by decide) (by decide) rfl (by decide) k_11_72 rfl (D_180 W_prog_15_method_140_code_64 26 rfl rfl rfl) ?_
      refine lv_iconst (v := iI 0) hx hb (D_3 W_prog_15_method_140_code_64 29 rfl rfl) rfl ?_
      refine zald (ci := 14) (k := 74) hx hb hK rfl hZ14 (by decide) (by decide) rfl (Nat.le_of_ble_eq_true rfl) (by decide) (by decide) (D_46 W_prog_15_method_140_code_64 30 rfl rfl) ?_
      obtain ⟨g17, hf⟩ := gif hf
      obtain ⟨g18, hf⟩ := gif hf
      refine zge (tgt := 198) hx hb g17 g18 (D_162 W_prog_15_method_140_code_64 31 rfl rfl rfl) (by decide) (fun h19 => ?_) (fun h19 => ?_)
      · replace hf := gpos hf h19
        exact b_M_open_198 X hf hZ14 hS14 (lv_sub hl [2] rfl)
      · replace hf := gneg hf h19
        refine lv_aload_n hx hb (D_42 W_prog_15_method_140_code_96 2 rfl rfl) rfl (lv_at hl 2 rfl) ?_
        refine lv_lload_n hx hb (D_31 W_prog_15_method_140_code_96 3 rfl rfl) rfl (lv_at hl 1 rfl) ?_
        refine lv_aload_n hx hb (D_42 W_prog_15_method_140_code_96 4 rfl rfl) rfl (lv_at hl 2 rfl) ?_
        refine zget (ci := 14) (C := RX14) (T := TX14) (v := .int (iI (F14 14 0 3))) (k := 3) hx hb hts inW_14 hown hK hZ14 (by decide) (by decide) rfl (by decide) k_11_1 rfl (D_180 W_prog_15_method_140_code_96 5 rfl rfl rfl) ?_
        obtain ⟨g20, hf⟩ := gif hf
        refine zi2l hx hb g20 (D_133 W_prog_15_method_140_code_96 8 rfl rfl) ?_
        obtain ⟨g21, hf⟩ := gif hf
        obtain ⟨g22, hf⟩ := gif hf
        refine zcmp_r hx hb g21 g22 (D_148 W_prog_15_method_140_code_96 9 rfl rfl) ?_
        refine z0ge (tgt := 113) hx hb zcmp_32 (D_156 W_prog_15_method_140_code_96 10 rfl rfl rfl) (by decide) (fun h23 => ?_) (fun h23 => ?_)
        · replace hf := gpos hf h23
          refine lv_aload_n hx hb (D_42 W_prog_15_method_140_code_96 17 rfl rfl) rfl (lv_at hl 2 rfl) ?_
          refine zget (ci := 14) (C := RX14) (T := TX14) (v := .int (iI (F14 14 0 3))) (k := 3) hx hb hts inW_14 hown hK hZ14 (by decide) (by decide) rfl (by decide) k_11_1 rfl (D_180 W_prog_15_method_140_code_96 18 rfl rfl rfl) ?_
          refine zi2l hx hb g20 (D_133 W_prog_15_method_140_code_96 21 rfl rfl) ?_
          exact b_M_open_118 X ih hf hZ14 hS14 (lv_sub hl [0, 2] rfl)
        · replace hf := gneg hf h23
          refine lv_lload_n hx hb (D_31 W_prog_15_method_140_code_96 13 rfl rfl) rfl (lv_at hl 1 rfl) ?_
          refine lv_goto (tgt := 118) hx hb (D_167 W_prog_15_method_140_code_96 14 rfl rfl rfl) (by decide) ?_
          exact b_M_open_118 X ih hf hZ14 hS14 (lv_sub hl [0, 2] rfl)

def f_M_open (K : Nat)  (F : zF) (B : zB) : zO := zbind (f_M_header K (zup3 (zup3 (zup3 (zup3 (zup3 (zup3 (zup3 F 14 0 17 0) 14 0 89 0) 14 0 90 3000) 14 0 94 0) 14 0 91 0) 14 0 92 0) 14 0 93 0) (zup4 (zup4 (zup4 (zup4 (zup4 B 14 0 74 2 0) 14 0 74 3 0) 14 0 74 4 4) 14 0 74 5 4) 14 0 74 6 120)) (fun r13 F13 B13 => f_M_open_81 K K 0 r13 F13 B13)
set_option maxHeartbeats 4000000 in
set_option maxRecDepth 100000 in
theorem c_M_open {l : Launch} {D : va_G} {ca : Nat → ClassId} {ad : Nat → Int → Nat → Nat} {L : List Nat} {aS vS : Nat → Nat} {sz K : Nat}   {F F9 : zF} {B B9 : zB} {r : Int} (hf : f_M_open K  F B = some (r, F9, B9)) : Met l ({ cls := "StaveHouseModel", name := "open", desc := "()I" } : Jvm.MethodName) (Cond.code ({ cls := "StaveHouseModel", name := "open", desc := "()I" } : Jvm.MethodName) prog_15_method_140_code 7 (Option.some Jvm.ClassFile.FieldType.int) :: wAll) ({ frames := 6, cells := 0, slots := 0, locals := 133 } : Room) (va_Pc [.ref (ad 14 0 0)] (zPre D ca ad lnM nM L aS vS F B sz)) (Q_M_open D ca ad L r F9 B9 (zA L sz)) 0 0 (zA L sz) := by
  refine zMet (Qc := Q_M_open D ca ad L r F9 B9) (lv := [(0, .ref (ad 14 0 0))]) (by decide) (Nat.le_of_ble_eq_true rfl) rfl (fun A p e s m below meth c ls X hZ hS hl => ?_)
  obtain ⟨hx, hb, hr, hml, hown, hts, hlk, hK, hA, hL, hX⟩ := id X
  replace hf : (zbind (f_M_header K (zup3 (zup3 (zup3 (zup3 (zup3 (zup3 (zup3 F 14 0 17 0) 14 0 89 0) 14 0 90 3000) 14 0 94 0) 14 0 91 0) 14 0 92 0) 14 0 93 0) (zup4 (zup4 (zup4 (zup4 (zup4 B 14 0 74 2 0) 14 0 74 3 0) 14 0 74 4 4) 14 0 74 5 4) 14 0 74 6 120)) (fun r13 F13 B13 => f_M_open_81 K K 0 r13 F13 B13)) = some (r, F9, B9) := hf
  refine lv_aload_n hx hb (D_42 W_prog_15_method_140_code_0 0 rfl rfl) rfl (lv_at hl 0 rfl) ?_
  refine lv_iconst (v := iI 0) hx hb (D_3 W_prog_15_method_140_code_0 1 rfl rfl) rfl ?_
  refine zput (ci := 14) (C := RX14) (T := TX14) (k := 17) (v := 0) (w := .int (iI 0)) hx hb hts inW_14 tyX14 tyX14_ok nmX14 hown hK hZ hS (by decide) (by decide) rfl (by decide) k_11_15 rfl (fun G h => congrArg (fun q => Value.int (iI q)) h) rfl rfl (zno (by decide)) (D_181 W_prog_15_method_140_code_0 2 rfl rfl rfl) (fun H1 locs1 hZ1 hS1 => ?_)
  refine lv_aload_n hx hb (D_42 W_prog_15_method_140_code_0 5 rfl rfl) rfl (lv_at hl 0 rfl) ?_
  refine lv_iconst (v := iI 0) hx hb (D_3 W_prog_15_method_140_code_0 6 rfl rfl) rfl ?_
  refine zput (ci := 14) (C := RX14) (T := TX14) (k := 89) (v := 0) (w := .int (iI 0)) hx hb hts inW_14 tyX14 tyX14_ok nmX14 hown hK hZ1 hS1 (by decide) (by decide) rfl (by decide) k_11_87 rfl (fun G h => congrArg (fun q => Value.int (iI q)) h) rfl rfl (zno (by decide)) (D_181 W_prog_15_method_140_code_0 7 rfl rfl rfl) (fun H2 locs2 hZ2 hS2 => ?_)
  refine lv_aload_n hx hb (D_42 W_prog_15_method_140_code_0 10 rfl rfl) rfl (lv_at hl 0 rfl) ?_
  refine lv_ldc2 hx hb hown (hts _ k_13_2) (D_20 W_prog_15_method_140_code_0 11 rfl rfl rfl) ?_
  refine W.eq (g2 := F0 m 14 ls [.long (lI 3000), .ref (ad 14 0 0)]) rfl ?_
  refine zput (ci := 14) (C := RX14) (T := TX14) (k := 90) (v := 3000) (w := .long (lI 3000)) hx hb hts inW_14 tyX14 tyX14_ok nmX14 hown hK hZ2 hS2 (by decide) (by decide) rfl (by decide) k_11_88 rfl (fun G h => congrArg (fun q => Value.long (lI q)) h) rfl rfl (zno (by decide)) (D_181 W_prog_15_method_140_code_0 14 rfl rfl rfl) (fun H3 locs3 hZ3 hS3 => ?_)
  refine lv_aload_n hx hb (D_42 W_prog_15_method_140_code_0 17 rfl rfl) rfl (lv_at hl 0 rfl) ?_
  refine lv_iconst (v := iI 0) hx hb (D_3 W_prog_15_method_140_code_0 18 rfl rfl) rfl ?_
  refine zput (ci := 14) (C := RX14) (T := TX14) (k := 94) (v := 0) (w := .int (iI 0)) hx hb hts inW_14 tyX14 tyX14_ok nmX14 hown hK hZ3 hS3 (by decide) (by decide) rfl (by decide) k_11_92 rfl (fun G h => congrArg (fun q => Value.int (iI q)) h) rfl rfl (zno (by decide)) (D_181 W_prog_15_method_140_code_0 19 rfl rfl rfl) (fun H4 locs4 hZ4 hS4 => ?_)
  refine lv_aload_n hx hb (D_42 W_prog_15_method_140_code_0 22 rfl rfl) rfl (lv_at hl 0 rfl) ?_
  refine lv_iconst (v := iI 0) hx hb (D_3 W_prog_15_method_140_code_0 23 rfl rfl) rfl ?_
  refine zput (ci := 14) (C := RX14) (T := TX14) (k := 91) (v := 0) (w := .int (iI 0)) hx hb hts inW_14 tyX14 tyX14_ok nmX14 hown hK hZ4 hS4 (by decide) (by decide) rfl (by decide) k_11_89 rfl (fun G h => congrArg (fun q => Value.int (iI q)) h) rfl rfl (zno (by decide)) (D_181 W_prog_15_method_140_code_0 24 rfl rfl rfl) (fun H5 locs5 hZ5 hS5 => ?_)
  refine lv_aload_n hx hb (D_42 W_prog_15_method_140_code_0 27 rfl rfl) rfl (lv_at hl 0 rfl) ?_
  refine lv_iconst (v := iI 0) hx hb (D_3 W_prog_15_method_140_code_0 28 rfl rfl) rfl ?_
  refine zput (ci := 14) (C := RX14) (T := TX14) (k := 92) (v := 0) (w := .int (iI 0)) hx hb hts inW_14 tyX14 tyX14_ok nmX14 hown hK hZ5 hS5 (by decide) (by decide) rfl (by decide) k_11_90 rfl (fun G h => congrArg (fun q => Value.int (iI q)) h) rfl rfl (zno (by decide)) (D_181 W_prog_15_method_140_code_0 29 rfl rfl rfl) (fun H6 locs6 hZ6 hS6 => ?_)
  refine lv_aload_n hx hb (D_42 W_prog_15_method_140_code_32 0 rfl rfl) rfl (lv_at hl 0 rfl) ?_
  refine lv_iconst (v := iI 0) hx hb (D_3 W_prog_15_method_140_code_32 1 rfl rfl) rfl ?_
  refine zput (ci := 14) (C := RX14) (T := TX14) (k := 93) (v := 0) (w := .int (iI 0)) hx hb hts inW_14 tyX14 tyX14_ok nmX14 hown hK hZ6 hS6 (by decide) (by decide) rfl (by decide) k_11_91 rfl (fun G h => congrArg (fun q => Value.int (iI q)) h) rfl rfl (zno (by decide)) (D_181 W_prog_15_method_140_code_32 2 rfl rfl rfl) (fun H7 locs7 hZ7 hS7 => ?_)
  refine lv_aload_n hx hb (D_42 W_prog_15_method_140_code_32 5 rfl rfl) rfl (lv_at hl 0 rfl) ?_
  refine zget (ci := 14) (C := RX14) (T := TX14) (v := .ref (ad 14 0 (74 + 1))) (k := 74) hx hb hts inW_14 hown hK hZ7 (by decide) (by decide) rfl (by decide) k_11_72 rfl (D_180 W_prog_15_method_140_code_32 6 rfl rfl rfl) ?_
  refine lv_iconst (v := iI 2) hx hb (D_5 W_prog_15_method_140_code_32 9 rfl rfl) rfl ?_
  refine lv_iconst (v := iI 0) hx hb (D_3 W_prog_15_method_140_code_32 10 rfl rfl) rfl ?_
  refine zast (ci := 14) (k := 74) hx hb hK rfl hZ7 hS7 (by decide) (by decide) rfl (Nat.le_of_ble_eq_true rfl) (by decide) (by decide) (D_79 W_prog_15_method_140_code_32 11 rfl rfl) (fun H8 locs8 hZ8 hS8 => ?_)
  refine lv_aload_n hx hb (D_42 W_prog_15_method_140_code_32 12 rfl rfl) rfl (lv_at hl 0 rfl) ?_
  refine zget (ci := 14) (C := RX14) (T := TX14) (v := .ref (ad 14 0 (74 + 1))) (k := 74) hx hb hts inW_14 hown hK hZ8 (by decide) (by decide) rfl (by decide) k_11_72 rfl (D_180 W_prog_15_method_140_code_32 13 rfl rfl rfl) ?_
  refine lv_iconst (v := iI 3) hx hb (D_6 W_prog_15_method_140_code_32 16 rfl rfl) rfl ?_
  refine lv_iconst (v := iI 0) hx hb (D_3 W_prog_15_method_140_code_32 17 rfl rfl) rfl ?_
  refine zast (ci := 14) (k := 74) hx hb hK rfl hZ8 hS8 (by decide) (by decide) rfl (Nat.le_of_ble_eq_true rfl) (by decide) (by decide) (D_79 W_prog_15_method_140_code_32 18 rfl rfl) (fun H9 locs9 hZ9 hS9 => ?_)
  refine lv_aload_n hx hb (D_42 W_prog_15_method_140_code_32 19 rfl rfl) rfl (lv_at hl 0 rfl) ?_
  refine zget (ci := 14) (C := RX14) (T := TX14) (v := .ref (ad 14 0 (74 + 1))) (k := 74) hx hb hts inW_14 hown hK hZ9 (by decide) (by decide) rfl (by decide) k_11_72 rfl (D_180 W_prog_15_method_140_code_32 20 rfl rfl rfl) ?_
  refine lv_iconst (v := iI 4) hx hb (D_7 W_prog_15_method_140_code_32 23 rfl rfl) rfl ?_
  refine lv_iconst (v := iI 4) hx hb (D_7 W_prog_15_method_140_code_32 24 rfl rfl) rfl ?_
  refine zast (ci := 14) (k := 74) hx hb hK rfl hZ9 hS9 (by decide) (by decide) rfl (Nat.le_of_ble_eq_true rfl) (by decide) (by decide) (D_79 W_prog_15_method_140_code_32 25 rfl rfl) (fun H10 locs10 hZ10 hS10 => ?_)
  refine lv_aload_n hx hb (D_42 W_prog_15_method_140_code_32 26 rfl rfl) rfl (lv_at hl 0 rfl) ?_
  refine zget (ci := 14) (C := RX14) (T := TX14) (v := .ref (ad 14 0 (74 + 1))) (k := 74) hx hb hts inW_14 hown hK hZ10 (by decide) (by decide) rfl (by decide) k_11_72 rfl (D_180 W_prog_15_method_140_code_32 27 rfl rfl rfl) ?_
  refine lv_iconst (v := iI 5) hx hb (D_8 W_prog_15_method_140_code_32 30 rfl rfl) rfl ?_
  refine lv_iconst (v := iI 4) hx hb (D_7 W_prog_15_method_140_code_32 31 rfl rfl) rfl ?_
  refine zast (ci := 14) (k := 74) hx hb hK rfl hZ10 hS10 (by decide) (by decide) rfl (Nat.le_of_ble_eq_true rfl) (by decide) (by decide) (D_79 W_prog_15_method_140_code_64 0 rfl rfl) (fun H11 locs11 hZ11 hS11 => ?_)
  refine lv_aload_n hx hb (D_42 W_prog_15_method_140_code_64 1 rfl rfl) rfl (lv_at hl 0 rfl) ?_
  refine zget (ci := 14) (C := RX14) (T := TX14) (v := .ref (ad 14 0 (74 + 1))) (k := 74) hx hb hts inW_14 hown hK hZ11 (by decide) (by decide) rfl (by decide) k_11_72 rfl (D_180 W_prog_15_method_140_code_64 2 rfl rfl rfl) ?_
  refine lv_bipush (v := iI 6) hx hb (D_16 W_prog_15_method_140_code_64 5 rfl rfl rfl) (by decide) ?_
  refine lv_bipush (v := iI 120) hx hb (D_16 W_prog_15_method_140_code_64 7 rfl rfl rfl) (by decide) ?_
  refine zast (ci := 14) (k := 74) hx hb hK rfl hZ11 hS11 (by decide) (by decide) rfl (Nat.le_of_ble_eq_true rfl) (by decide) (by decide) (D_79 W_prog_15_method_140_code_64 9 rfl rfl) (fun H12 locs12 hZ12 hS12 => ?_)
  refine lv_aload_n hx hb (D_42 W_prog_15_method_140_code_64 10 rfl rfl) rfl (lv_at hl 0 rfl) ?_
  obtain ⟨r13, F13, B13, hc13, hf⟩ := gbind hf
  refine va_calll (va_runV (As := []) (rest := []) ⟨hx, hb, hml, hown, hts⟩ (c_M_header (l := l) hc13) (cwV 0 hts (gdV k_13_3 k_13_5 ks_149 k_1_9 k_13_6) rfl rfl rfl (by decide +kernel) ⟨Nat.le_of_ble_eq_true rfl, Nat.le_of_ble_eq_true rfl⟩) (zPV X hZ12 hS12 (ci := 14) (by decide) (by decide) (r := (RX14, TX14, 107)) rfl []) rfl rfl hl.1 rfl (lv_room (Nat.le_of_ble_eq_true rfl)) (D_182 W_prog_15_method_140_code_64 11 rfl rfl rfl) ⟨Nat.le_of_ble_eq_true rfl, Nat.le_of_ble_eq_true rfl⟩) hS12 (fun q _ h => zAin X hS12 q h) (zAin X hS12) (fun p13 u13 t13 H13 locs13 ht13 hv13 hw13 hB13 hz13 hk13 hS13 => ?_)
  have hZ13 := zBack X ht13 hB13
  subst hw13
  refine lv_lstore_n (lv' := [(1, .long (lI r13)), (0, .ref (ad 14 0 0))]) hx hb (D_64 W_prog_15_method_140_code_64 14 rfl rfl) rfl hl (by decide) rfl (fun ls hl => ?_)
  refine lv_iconst (v := iI 0) hx hb (D_3 W_prog_15_method_140_code_64 15 rfl rfl) rfl ?_
  refine lv_istore_n (lv' := [(3, .int (iI 0)), (1, .long (lI r13)), (0, .ref (ad 14 0 0))]) hx hb (D_62 W_prog_15_method_140_code_64 16 rfl rfl) rfl hl (by decide) rfl (fun ls hl => ?_)
  exact b_M_open_81 X hf hZ13 hS13 (lv_sub hl [0, 1, 2] rfl)

abbrev Q_M_choose (D : va_G) (ca : Nat → ClassId) (ad : Nat → Int → Nat → Nat) (L : List Nat) (r : Int) (F : zF) (B : zB) (A : Nat → Prop) : Array Value → State → Outcome → State → Prop := va_Qi (S := Unit) (fun p _ => p = iI r) (fun _ => zPo D ca ad lnM nM L F B A) A
def f_M_choose_135 (K : Nat) (s0 : Int) (F : zF) (B : zB) : zO := if (s0 = 0 ∨ s0 = 1) then some (s0, F, B) else none
set_option maxHeartbeats 4000000 in
set_option maxRecDepth 100000 in
theorem b_M_choose_135 {D : va_G} {ca : Nat → ClassId} {ad : Nat → Int → Nat → Nat} {L : List Nat} {aS vS : Nat → Nat} {A : Nat → Prop} {p : Program} {l : Launch} {e : Env} {s : State} {m : MethodId} {args : Array Value} {below : List Frame} {meth : Method} {c : Code} {K : Nat} {r : Int} {F9 : zF} {B9 : zB} (X : zX D ca L aS vS A p s m args meth c prog_15_method_84_code 13 (Option.some Jvm.ClassFile.FieldType.boolean) "StaveHouseModel") {s0 : Int} {F : zF} {B : zB} {H : Heap} {locs : List Loc} {ls : Array Slot} (hf : f_M_choose_135 K s0 F B = some (r, F9, B9)) (hZ : zH D ca ad lnM nM L F B A H) (hS : va_S A s.heap H locs) (hl : lv_has ls 13 []) : W p l e ({ frames := 5, cells := 0, slots := 0, locals := 158 } : Room) s m args below meth c H locs 0 0 (MQ below (Q_M_choose D ca ad L r F9 B9 A) args s 0 0 A) (F0 m 135 ls [.int (iI s0)]) := by
  obtain ⟨hx, hb, hr, hml, hown, hts, hlk, hK, hA, hL, hX⟩ := id X
  replace hf : (if (s0 = 0 ∨ s0 = 1) then some (s0, F, B) else none) = some (r, F9, B9) := hf
  obtain ⟨g22, hf⟩ := gif hf
  cases hf
  exact W.zret hx hb hr (zbool g22) (fun t ht hW => ⟨⟨_, (), rfl, rfl, by rw [ht]; exact hZ, va_K.moved hW.alike hK⟩, hS.F ht⟩) hS.2.2 (D_172 W_prog_15_method_84_code_128 7 rfl rfl) hlk

def f_M_choose_112 (rec8 : Int → Int → Int → Int → Int → zF → zB → zO) (rec18 : Int → Int → Int → Int → Int → Int → zF → zB → zO) (K : Nat) (l8 : Int) (l7 : Int) (l5 : Int) (l3 : Int) (l1 : Int) (l2 : Int) (F : zF) (B : zB) : zO := rec18 (l8 + 1) l7 l5 l3 l1 l2 F B
set_option maxHeartbeats 4000000 in
set_option maxRecDepth 100000 in
theorem b_M_choose_112 {D : va_G} {ca : Nat → ClassId} {ad : Nat → Int → Nat → Nat} {L : List Nat} {aS vS : Nat → Nat} {A : Nat → Prop} {p : Program} {l : Launch} {e : Env} {s : State} {m : MethodId} {args : Array Value} {below : List Frame} {meth : Method} {c : Code} {K : Nat} {r : Int} {F9 : zF} {B9 : zB} (X : zX D ca L aS vS A p s m args meth c prog_15_method_84_code 13 (Option.some Jvm.ClassFile.FieldType.boolean) "StaveHouseModel") {rec8 : Int → Int → Int → Int → Int → zF → zB → zO} {rec18 : Int → Int → Int → Int → Int → Int → zF → zB → zO} (hrec8 : ∀ {l7 : Int} {l5 : Int} {l3 : Int} {l1 : Int} {l2 : Int} {F : zF} {B : zB} {H : Heap} {locs : List Loc} {ls : Array Slot}, rec8 l7 l5 l3 l1 l2 F B = some (r, F9, B9) → zH D ca ad lnM nM L F B A H → va_S A s.heap H locs → lv_has ls 13 [(7, .int (iI l7)), (5, .long (lI l5)), (3, .long (lI l3)), (0, .ref (ad 14 0 0)), (1, .ref (ad 13 l1 0)), (2, .int (iI l2))] → W p l e ({ frames := 5, cells := 0, slots := 0, locals := 158 } : Room) s m args below meth c H locs 0 0 (MQ below (Q_M_choose D ca ad L r F9 B9 A) args s 0 0 A) (F0 m 8 ls [])) (hrec18 : ∀ {l8 : Int} {l7 : Int} {l5 : Int} {l3 : Int} {l1 : Int} {l2 : Int} {F : zF} {B : zB} {H : Heap} {locs : List Loc} {ls : Array Slot}, rec18 l8 l7 l5 l3 l1 l2 F B = some (r, F9, B9) → zH D ca ad lnM nM L F B A H → va_S A s.heap H locs → lv_has ls 13 [(8, .int (iI l8)), (7, .int (iI l7)), (5, .long (lI l5)), (3, .long (lI l3)), (0, .ref (ad 14 0 0)), (1, .ref (ad 13 l1 0)), (2, .int (iI l2))] → W p l e ({ frames := 5, cells := 0, slots := 0, locals := 158 } : Room) s m args below meth c H locs 0 0 (MQ below (Q_M_choose D ca ad L r F9 B9 A) args s 0 0 A) (F0 m 18 ls [])) {l8 : Int} {l7 : Int} {l5 : Int} {l3 : Int} {l1 : Int} {l2 : Int} {F : zF} {B : zB} {H : Heap} {locs : List Loc} {ls : Array Slot} (hf : f_M_choose_112 rec8 rec18 K l8 l7 l5 l3 l1 l2 F B = some (r, F9, B9)) (hZ : zH D ca ad lnM nM L F B A H) (hS : va_S A s.heap H locs) (hl : lv_has ls 13 [(8, .int (iI l8)), (7, .int (iI l7)), (5, .long (lI l5)), (3, .long (lI l3)), (0, .ref (ad 14 0 0)), (1, .ref (ad 13 l1 0)), (2, .int (iI l2))]) : W p l e ({ frames := 5, cells := 0, slots := 0, locals := 158 } : Room) s m args below meth c H locs 0 0 (MQ below (Q_M_choose D ca ad L r F9 B9 A) args s 0 0 A) (F0 m 112 ls []) := by
  obtain ⟨hx, hb, hr, hml, hown, hts, hlk, hK, hA, hL, hX⟩ := id X
  replace hf : (rec18 (l8 + 1) l7 l5 l3 l1 l2 F B) = some (r, F9, B9) := hf
  refine lv_iinc (v := iI (l8 + 1)) (lv' := [(8, .int (iI (l8 + 1))), (7, .int (iI l7)), (5, .long (lI l5)), (3, .long (lI l3)), (0, .ref (ad 14 0 0)), (1, .ref (ad 13 l1 0)), (2, .int (iI l2))]) hx hb d_15_84_112 hl (k := 0) rfl (iI_add _ 1) (by decide) rfl (fun ls hl => ?_)
  refine lv_goto (tgt := 18) hx hb (D_167 W_prog_15_method_84_code_96 19 rfl rfl rfl) (by decide) ?_
  exact hrec18 hf hZ hS (lv_sub hl [0, 1, 2, 3, 4, 5, 6] rfl)

def f_M_choose_93 (rec8 : Int → Int → Int → Int → Int → zF → zB → zO) (rec18 : Int → Int → Int → Int → Int → Int → zF → zB → zO) (K : Nat) (l11 : Int) (l9 : Int) (l8 : Int) (l7 : Int) (l1 : Int) (l2 : Int) (F : zF) (B : zB) : zO := f_M_choose_112 rec8 rec18 K l8 l7 l11 l9 l1 l2 (zup3 (zup3 F 14 0 56 l7) 14 0 57 l8) B
set_option maxHeartbeats 4000000 in
set_option maxRecDepth 100000 in
theorem b_M_choose_93 {D : va_G} {ca : Nat → ClassId} {ad : Nat → Int → Nat → Nat} {L : List Nat} {aS vS : Nat → Nat} {A : Nat → Prop} {p : Program} {l : Launch} {e : Env} {s : State} {m : MethodId} {args : Array Value} {below : List Frame} {meth : Method} {c : Code} {K : Nat} {r : Int} {F9 : zF} {B9 : zB} (X : zX D ca L aS vS A p s m args meth c prog_15_method_84_code 13 (Option.some Jvm.ClassFile.FieldType.boolean) "StaveHouseModel") {rec8 : Int → Int → Int → Int → Int → zF → zB → zO} {rec18 : Int → Int → Int → Int → Int → Int → zF → zB → zO} (hrec8 : ∀ {l7 : Int} {l5 : Int} {l3 : Int} {l1 : Int} {l2 : Int} {F : zF} {B : zB} {H : Heap} {locs : List Loc} {ls : Array Slot}, rec8 l7 l5 l3 l1 l2 F B = some (r, F9, B9) → zH D ca ad lnM nM L F B A H → va_S A s.heap H locs → lv_has ls 13 [(7, .int (iI l7)), (5, .long (lI l5)), (3, .long (lI l3)), (0, .ref (ad 14 0 0)), (1, .ref (ad 13 l1 0)), (2, .int (iI l2))] → W p l e ({ frames := 5, cells := 0, slots := 0, locals := 158 } : Room) s m args below meth c H locs 0 0 (MQ below (Q_M_choose D ca ad L r F9 B9 A) args s 0 0 A) (F0 m 8 ls [])) (hrec18 : ∀ {l8 : Int} {l7 : Int} {l5 : Int} {l3 : Int} {l1 : Int} {l2 : Int} {F : zF} {B : zB} {H : Heap} {locs : List Loc} {ls : Array Slot}, rec18 l8 l7 l5 l3 l1 l2 F B = some (r, F9, B9) → zH D ca ad lnM nM L F B A H → va_S A s.heap H locs → lv_has ls 13 [(8, .int (iI l8)), (7, .int (iI l7)), (5, .long (lI l5)), (3, .long (lI l3)), (0, .ref (ad 14 0 0)), (1, .ref (ad 13 l1 0)), (2, .int (iI l2))] → W p l e ({ frames := 5, cells := 0, slots := 0, locals := 158 } : Room) s m args below meth c H locs 0 0 (MQ below (Q_M_choose D ca ad L r F9 B9 A) args s 0 0 A) (F0 m 18 ls [])) {l11 : Int} {l9 : Int} {l8 : Int} {l7 : Int} {l1 : Int} {l2 : Int} {F : zF} {B : zB} {H : Heap} {locs : List Loc} {ls : Array Slot} (hf : f_M_choose_93 rec8 rec18 K l11 l9 l8 l7 l1 l2 F B = some (r, F9, B9)) (hZ : zH D ca ad lnM nM L F B A H) (hS : va_S A s.heap H locs) (hl : lv_has ls 13 [(11, .long (lI l11)), (9, .long (lI l9)), (8, .int (iI l8)), (7, .int (iI l7)), (0, .ref (ad 14 0 0)), (1, .ref (ad 13 l1 0)), (2, .int (iI l2))]) : W p l e ({ frames := 5, cells := 0, slots := 0, locals := 158 } : Room) s m args below meth c H locs 0 0 (MQ below (Q_M_choose D ca ad L r F9 B9 A) args s 0 0 A) (F0 m 93 ls []) := by
  obtain ⟨hx, hb, hr, hml, hown, hts, hlk, hK, hA, hL, hX⟩ := id X
  replace hf : (f_M_choose_112 rec8 rec18 K l8 l7 l11 l9 l1 l2 (zup3 (zup3 F 14 0 56 l7) 14 0 57 l8) B) = some (r, F9, B9) := hf
  refine lv_lload hx hb (D_22 W_prog_15_method_84_code_64 29 rfl rfl) (lv_at hl 1 rfl) ?_
  refine lv_lstore_n (lv' := [(3, .long (lI l9)), (11, .long (lI l11)), (9, .long (lI l9)), (8, .int (iI l8)), (7, .int (iI l7)), (0, .ref (ad 14 0 0)), (1, .ref (ad 13 l1 0)), (2, .int (iI l2))]) hx hb (D_66 W_prog_15_method_84_code_64 31 rfl rfl) rfl hl (by decide) rfl (fun ls hl => ?_)
  refine lv_lload hx hb (D_22 W_prog_15_method_84_code_96 0 rfl rfl) (lv_at hl 1 rfl) ?_
  refine lv_lstore (lv' := [(5, .long (lI l11)), (3, .long (lI l9)), (11, .long (lI l11)), (9, .long (lI l9)), (8, .int (iI l8)), (7, .int (iI l7)), (0, .ref (ad 14 0 0)), (1, .ref (ad 13 l1 0)), (2, .int (iI l2))]) hx hb (D_55 W_prog_15_method_84_code_96 2 rfl rfl) hl (by decide) rfl (fun ls hl => ?_)
  refine lv_aload_n hx hb (D_42 W_prog_15_method_84_code_96 4 rfl rfl) rfl (lv_at hl 6 rfl) ?_
  refine lv_iload hx hb (D_21 W_prog_15_method_84_code_96 5 rfl rfl) (lv_at hl 5 rfl) ?_
  refine zput (ci := 14) (C := RX14) (T := TX14) (k := 56) (v := l7) (w := .int (iI l7)) hx hb hts inW_14 tyX14 tyX14_ok nmX14 hown hK hZ hS (by decide) (by decide) rfl (by decide) k_11_54 rfl (fun G h => congrArg (fun q => Value.int (iI q)) h) rfl rfl (zno (by decide)) (D_181 W_prog_15_method_84_code_96 7 rfl rfl rfl) (fun H20 locs20 hZ20 hS20 => ?_)
  refine lv_aload_n hx hb (D_42 W_prog_15_method_84_code_96 10 rfl rfl) rfl (lv_at hl 6 rfl) ?_
  refine lv_iload hx hb (D_21 W_prog_15_method_84_code_96 11 rfl rfl) (lv_at hl 4 rfl) ?_
  refine zput (ci := 14) (C := RX14) (T := TX14) (k := 57) (v := l8) (w := .int (iI l8)) hx hb hts inW_14 tyX14 tyX14_ok nmX14 hown hK hZ20 hS20 (by decide) (by decide) rfl (by decide) k_11_55 rfl (fun G h => congrArg (fun q => Value.int (iI q)) h) rfl rfl (zno (by decide)) (D_181 W_prog_15_method_84_code_96 13 rfl rfl rfl) (fun H21 locs21 hZ21 hS21 => ?_)
  exact b_M_choose_112 X hrec8 hrec18 hf hZ21 hS21 (lv_sub hl [4, 5, 0, 1, 6, 7, 8] rfl)

def f_M_choose_18 (rec8 : Int → Int → Int → Int → Int → zF → zB → zO) (K : Nat) : Nat → Int → Int → Int → Int → Int → Int → zF → zB → zO
  | 0, _, _, _, _, _, _, _, _ => none
  | n + 1, l8, l7, l5, l3, l1, l2, F, B => if r32 l8 then (if 3 ≤ l8 then rec8 (l7 + 1) l5 l3 l1 l2 F B else zbind (f_M_formUp K l8 F B) (fun r7 F7 B7 => zbind (f_M_formDown K l7 l8 F7 B7) (fun r8 F8 B8 => zbind (f_M_compare K r7 r8 (F8 14 0 52) (F8 14 0 53) F8 B8) (fun r9 F9 B9 => if r32 r9 then (if 0 < r9 then f_M_choose_112 rec8 (f_M_choose_18 rec8 K n) K l8 l7 l5 l3 l1 l2 F9 B9 else zbind (f_M_compare K r7 r8 l3 l5 F9 B9) (fun r12 F12 B12 => if r32 r12 then (if 0 < r12 then if r32 l2 then (if l2 = 0 then f_M_choose_93 rec8 (f_M_choose_18 rec8 K n) K r8 r7 l8 l7 l1 l2 F12 B12 else zbind (f_M_stands K l1 r7 r8 F12 B12) (fun r17 F17 B17 => if r32 r17 then (if r17 = 0 then f_M_choose_112 rec8 (f_M_choose_18 rec8 K n) K l8 l7 l5 l3 l1 l2 F17 B17 else f_M_choose_93 rec8 (f_M_choose_18 rec8 K n) K r8 r7 l8 l7 l1 l2 F17 B17) else none)) else none else f_M_choose_112 rec8 (f_M_choose_18 rec8 K n) K l8 l7 l5 l3 l1 l2 F12 B12) else none)) else none)))) else none
set_option maxHeartbeats 4000000 in
set_option maxRecDepth 100000 in
theorem b_M_choose_18 {D : va_G} {ca : Nat → ClassId} {ad : Nat → Int → Nat → Nat} {L : List Nat} {aS vS : Nat → Nat} {A : Nat → Prop} {p : Program} {l : Launch} {e : Env} {s : State} {m : MethodId} {args : Array Value} {below : List Frame} {meth : Method} {c : Code} {K : Nat} {r : Int} {F9 : zF} {B9 : zB} (X : zX D ca L aS vS A p s m args meth c prog_15_method_84_code 13 (Option.some Jvm.ClassFile.FieldType.boolean) "StaveHouseModel") {rec8 : Int → Int → Int → Int → Int → zF → zB → zO} (hrec8 : ∀ {l7 : Int} {l5 : Int} {l3 : Int} {l1 : Int} {l2 : Int} {F : zF} {B : zB} {H : Heap} {locs : List Loc} {ls : Array Slot}, rec8 l7 l5 l3 l1 l2 F B = some (r, F9, B9) → zH D ca ad lnM nM L F B A H → va_S A s.heap H locs → lv_has ls 13 [(7, .int (iI l7)), (5, .long (lI l5)), (3, .long (lI l3)), (0, .ref (ad 14 0 0)), (1, .ref (ad 13 l1 0)), (2, .int (iI l2))] → W p l e ({ frames := 5, cells := 0, slots := 0, locals := 158 } : Room) s m args below meth c H locs 0 0 (MQ below (Q_M_choose D ca ad L r F9 B9 A) args s 0 0 A) (F0 m 8 ls [])) : ∀ {n : Nat} {l8 : Int} {l7 : Int} {l5 : Int} {l3 : Int} {l1 : Int} {l2 : Int} {F : zF} {B : zB} {H : Heap} {locs : List Loc} {ls : Array Slot}, f_M_choose_18 rec8 K n l8 l7 l5 l3 l1 l2 F B = some (r, F9, B9) → zH D ca ad lnM nM L F B A H → va_S A s.heap H locs → lv_has ls 13 [(8, .int (iI l8)), (7, .int (iI l7)), (5, .long (lI l5)), (3, .long (lI l3)), (0, .ref (ad 14 0 0)), (1, .ref (ad 13 l1 0)), (2, .int (iI l2))] → W p l e ({ frames := 5, cells := 0, slots := 0, locals := 158 } : Room) s m args below meth c H locs 0 0 (MQ below (Q_M_choose D ca ad L r F9 B9 A) args s 0 0 A) (F0 m 18 ls []) := by
  obtain ⟨hx, hb, hr, hml, hown, hts, hlk, hK, hA, hL, hX⟩ := id X
  intro n
  induction n with
  | zero =>
    intros
    rename_i hf _ _ _
    cases hf
  | succ n ih =>
    intro l8 l7 l5 l3 l1 l2 F B H locs ls hf hZ hS hl
    replace hf : (if r32 l8 then (if 3 ≤ l8 then rec8 (l7 + 1) l5 l3 l1 l2 F B else zbind (f_M_formUp K l8 F B) (fun r7 F7 B7 => zbind (f_M_formDown K l7 l8 F7 B7) (fun r8 F8 B8 => zbind (f_M_compare K r7 r8 (F8 14 0 52) (F8 14 0 53) F8 B8) (fun r9 F9 B9 => if r32 r9 then (if 0 < r9 then f_M_choose_112 rec8 (f_M_choose_18 rec8 K n) K l8 l7 l5 l3 l1 l2 F9 B9 else zbind (f_M_compare K r7 r8 l3 l5 F9 B9) (fun r12 F12 B12 => if r32 r12 then (if 0 < r12 then if r32 l2 then (if l2 = 0 then f_M_choose_93 rec8 (f_M_choose_18 rec8 K n) K r8 r7 l8 l7 l1 l2 F12 B12 else zbind (f_M_stands K l1 r7 r8 F12 B12) (fun r17 F17 B17 => if r32 r17 then (if r17 = 0 then f_M_choose_112 rec8 (f_M_choose_18 rec8 K n) K l8 l7 l5 l3 l1 l2 F17 B17 else f_M_choose_93 rec8 (f_M_choose_18 rec8 K n) K r8 r7 l8 l7 l1 l2 F17 B17) else none)) else none else f_M_choose_112 rec8 (f_M_choose_18 rec8 K n) K l8 l7 l5 l3 l1 l2 F12 B12) else none)) else none)))) else none) = some (r, F9, B9) := hf
    refine lv_iload hx hb (D_21 W_prog_15_method_84_code_0 18 rfl rfl) (lv_at hl 0 rfl) ?_
    refine lv_iconst (v := iI 3) hx hb (D_6 W_prog_15_method_84_code_0 20 rfl rfl) rfl ?_
    obtain ⟨g5, hf⟩ := gif hf
    refine zge (tgt := 118) hx hb g5 (by decide) (D_162 W_prog_15_method_84_code_0 21 rfl rfl rfl) (by decide) (fun h6 => ?_) (fun h6 => ?_)
    · replace hf := gpos hf h6
      refine lv_iinc (v := iI (l7 + 1)) (lv' := [(7, .int (iI (l7 + 1))), (8, .int (iI l8)), (5, .long (lI l5)), (3, .long (lI l3)), (0, .ref (ad 14 0 0)), (1, .ref (ad 13 l1 0)), (2, .int (iI l2))]) hx hb d_15_84_118 hl (k := 1) rfl (iI_add _ 1) (by decide) rfl (fun ls hl => ?_)
      refine lv_goto (tgt := 8) hx hb (D_167 W_prog_15_method_84_code_96 25 rfl rfl rfl) (by decide) ?_
      exact hrec8 hf hZ hS (lv_sub hl [0, 2, 3, 4, 5, 6] rfl)
    · replace hf := gneg hf h6
      refine lv_iload hx hb (D_21 W_prog_15_method_84_code_0 24 rfl rfl) (lv_at hl 0 rfl) ?_
      obtain ⟨r7, F7, B7, hc7, hf⟩ := gbind hf
      refine va_calll (va_runS (As := [.int (iI l8)]) (rest := []) ⟨hx, hb, hml, hown, hts⟩ (c_M_formUp (l := l) hc7) (va_cwS 1 hts (gdS k_13_163 k_13_164 k_1_9 k_13_165) rfl rfl rfl (by decide +kernel) ⟨Nat.le_of_ble_eq_true rfl, Nat.le_of_ble_eq_true rfl⟩) (zPS X hZ hS [.int (iI l8)]) rfl rfl hl.1 rfl (lv_room (Nat.le_of_ble_eq_true rfl)) (D_184 W_prog_15_method_84_code_0 26 rfl rfl rfl) ⟨Nat.le_of_ble_eq_true rfl, Nat.le_of_ble_eq_true rfl⟩) hS (fun q _ h => zAin X hS q h) (zAin X hS) (fun p7 u7 t7 H7 locs7 ht7 hv7 hw7 hB7 hz7 hk7 hS7 => ?_)
      have hZ7 := zBack X ht7 hB7
      subst hw7
      refine lv_lstore (lv' := [(9, .long (lI r7)), (8, .int (iI l8)), (7, .int (iI l7)), (5, .long (lI l5)), (3, .long (lI l3)), (0, .ref (ad 14 0 0)), (1, .ref (ad 13 l1 0)), (2, .int (iI l2))]) hx hb (D_55 W_prog_15_method_84_code_0 29 rfl rfl) hl (by decide) rfl (fun ls hl => ?_)
      refine lv_iload hx hb (D_21 W_prog_15_method_84_code_0 31 rfl rfl) (lv_at hl 2 rfl) ?_
      refine lv_iload hx hb (D_21 W_prog_15_method_84_code_32 1 rfl rfl) (lv_at hl 1 rfl) ?_
      obtain ⟨r8, F8, B8, hc8, hf⟩ := gbind hf
      refine va_calll (va_runS (As := [.int (iI l7), .int (iI l8)]) (rest := []) ⟨hx, hb, hml, hown, hts⟩ (c_M_formDown (l := l) hc8) (va_cwS 2 hts (gdS k_13_168 k_13_169 k_1_9 k_13_170) rfl rfl rfl (by decide +kernel) ⟨Nat.le_of_ble_eq_true rfl, Nat.le_of_ble_eq_true rfl⟩) (zPS X hZ7 hS7 [.int (iI l7), .int (iI l8)]) rfl rfl hl.1 rfl (lv_room (Nat.le_of_ble_eq_true rfl)) (D_184 W_prog_15_method_84_code_32 3 rfl rfl rfl) ⟨Nat.le_of_ble_eq_true rfl, Nat.le_of_ble_eq_true rfl⟩) hS7 (fun q _ h => zAin X hS7 q h) (zAin X hS7) (fun p8 u8 t8 H8 locs8 ht8 hv8 hw8 hB8 hz8 hk8 hS8 => ?_)
      have hZ8 := zBack X ht8 hB8
      subst hw8
      refine lv_lstore (lv' := [(11, .long (lI r8)), (9, .long (lI r7)), (8, .int (iI l8)), (7, .int (iI l7)), (5, .long (lI l5)), (3, .long (lI l3)), (0, .ref (ad 14 0 0)), (1, .ref (ad 13 l1 0)), (2, .int (iI l2))]) hx hb (D_55 W_prog_15_method_84_code_32 6 rfl rfl) hl (by decide) rfl (fun ls hl => ?_)
      refine lv_lload hx hb (D_22 W_prog_15_method_84_code_32 8 rfl rfl) (lv_at hl 1 rfl) ?_
      refine lv_lload hx hb (D_22 W_prog_15_method_84_code_32 10 rfl rfl) (lv_at hl 0 rfl) ?_
      refine lv_aload_n hx hb (D_42 W_prog_15_method_84_code_32 12 rfl rfl) rfl (lv_at hl 6 rfl) ?_
      refine zget (ci := 14) (C := RX14) (T := TX14) (v := .long (lI (F8 14 0 52))) (k := 52) hx hb hts inW_14 hown hK hZ8 (by decide) (by decide) rfl (by decide) k_11_50 rfl (D_180 W_prog_15_method_84_code_32 13 rfl rfl rfl) ?_
      refine lv_aload_n hx hb (D_42 W_prog_15_method_84_code_32 16 rfl rfl) rfl (lv_at hl 6 rfl) ?_
      refine zget (ci := 14) (C := RX14) (T := TX14) (v := .long (lI (F8 14 0 53))) (k := 53) hx hb hts inW_14 hown hK hZ8 (by decide) (by decide) rfl (by decide) k_11_51 rfl (D_180 W_prog_15_method_84_code_32 17 rfl rfl rfl) ?_
      obtain ⟨r9, F9, B9, hc9, hf⟩ := gbind hf
      refine va_calli (va_runS (As := [.long (lI r7), .long (lI r8), .long (lI (F8 14 0 52)), .long (lI (F8 14 0 53))]) (rest := []) ⟨hx, hb, hml, hown, hts⟩ (c_M_compare (l := l) hc9) (va_cwS 4 hts (gdS k_13_104 k_13_105 k_1_9 k_13_106) rfl rfl rfl (by decide +kernel) ⟨Nat.le_of_ble_eq_true rfl, Nat.le_of_ble_eq_true rfl⟩) (zPS X hZ8 hS8 [.long (lI r7), .long (lI r8), .long (lI (F8 14 0 52)), .long (lI (F8 14 0 53))]) rfl rfl hl.1 rfl (lv_room (Nat.le_of_ble_eq_true rfl)) (D_184 W_prog_15_method_84_code_32 20 rfl rfl rfl) ⟨Nat.le_of_ble_eq_true rfl, Nat.le_of_ble_eq_true rfl⟩) hS8 (fun q _ h => zAin X hS8 q h) (zAin X hS8) (fun p9 u9 t9 H9 locs9 ht9 hv9 hw9 hB9 hz9 hk9 hS9 => ?_)
      have hZ9 := zBack X ht9 hB9
      subst hw9
      obtain ⟨g10, hf⟩ := gif hf
      refine z0gt (tgt := 112) hx hb g10 (D_157 W_prog_15_method_84_code_32 23 rfl rfl rfl) (by decide) (fun h11 => ?_) (fun h11 => ?_)
      · replace hf := gpos hf h11
        exact b_M_choose_112 X hrec8 ih hf hZ9 hS9 (lv_sub hl [2, 3, 4, 5, 6, 7, 8] rfl)
      · replace hf := gneg hf h11
        refine lv_lload hx hb (D_22 W_prog_15_method_84_code_32 26 rfl rfl) (lv_at hl 1 rfl) ?_
        refine lv_lload hx hb (D_22 W_prog_15_method_84_code_32 28 rfl rfl) (lv_at hl 0 rfl) ?_
        refine lv_lload_n hx hb (D_33 W_prog_15_method_84_code_32 30 rfl rfl) rfl (lv_at hl 5 rfl) ?_
        refine lv_lload hx hb (D_22 W_prog_15_method_84_code_32 31 rfl rfl) (lv_at hl 4 rfl) ?_
        obtain ⟨r12, F12, B12, hc12, hf⟩ := gbind hf
        refine va_calli (va_runS (As := [.long (lI r7), .long (lI r8), .long (lI l3), .long (lI l5)]) (rest := []) ⟨hx, hb, hml, hown, hts⟩ (c_M_compare (l := l) hc12) (va_cwS 4 hts (gdS k_13_104 k_13_105 k_1_9 k_13_106) rfl rfl rfl (by decide +kernel) ⟨Nat.le_of_ble_eq_true rfl, Nat.le_of_ble_eq_true rfl⟩) (zPS X hZ9 hS9 [.long (lI r7), .long (lI r8), .long (lI l3), .long (lI l5)]) rfl rfl hl.1 rfl (lv_room (Nat.le_of_ble_eq_true rfl)) (D_184 W_prog_15_method_84_code_64 1 rfl rfl rfl) ⟨Nat.le_of_ble_eq_true rfl, Nat.le_of_ble_eq_true rfl⟩) hS9 (fun q _ h => zAin X hS9 q h) (zAin X hS9) (fun p12 u12 t12 H12 locs12 ht12 hv12 hw12 hB12 hz12 hk12 hS12 => ?_)
        have hZ12 := zBack X ht12 hB12
        subst hw12
        obtain ⟨g13, hf⟩ := gif hf
        refine z0gt (tgt := 74) hx hb g13 (D_157 W_prog_15_method_84_code_64 4 rfl rfl rfl) (by decide) (fun h14 => ?_) (fun h14 => ?_)
        · replace hf := gpos hf h14
          refine lv_iload_n hx hb (D_28 W_prog_15_method_84_code_64 10 rfl rfl) rfl (lv_at hl 8 rfl) ?_
          obtain ⟨g15, hf⟩ := gif hf
          refine z0eq (tgt := 93) hx hb g15 (D_153 W_prog_15_method_84_code_64 11 rfl rfl rfl) (by decide) (fun h16 => ?_) (fun h16 => ?_)
          · replace hf := gpos hf h16
            exact b_M_choose_93 X hrec8 ih hf hZ12 hS12 (lv_sub hl [0, 1, 2, 3, 6, 7, 8] rfl)
          · replace hf := gneg hf h16
            refine lv_aload_n hx hb (D_42 W_prog_15_method_84_code_64 14 rfl rfl) rfl (lv_at hl 6 rfl) ?_
            refine lv_aload_n hx hb (D_43 W_prog_15_method_84_code_64 15 rfl rfl) rfl (lv_at hl 7 rfl) ?_
            refine lv_lload hx hb (D_22 W_prog_15_method_84_code_64 16 rfl rfl) (lv_at hl 1 rfl) ?_
            refine lv_lload hx hb (D_22 W_prog_15_method_84_code_64 18 rfl rfl) (lv_at hl 0 rfl) ?_
            obtain ⟨r17, F17, B17, hc17, hf⟩ := gbind hf
            refine va_calli (va_runV (As := [.ref (ad 13 l1 0), .long (lI r7), .long (lI r8)]) (rest := []) ⟨hx, hb, hml, hown, hts⟩ (c_M_stands (l := l) hc17) (cwV 3 hts (gdV k_13_171 k_13_173 ks_181 k_1_9 k_13_174) rfl rfl rfl (by decide +kernel) ⟨Nat.le_of_ble_eq_true rfl, Nat.le_of_ble_eq_true rfl⟩) (zPV X hZ12 hS12 (ci := 14) (by decide) (by decide) (r := (RX14, TX14, 107)) rfl [.ref (ad 13 l1 0), .long (lI r7), .long (lI r8)]) rfl rfl hl.1 rfl (lv_room (Nat.le_of_ble_eq_true rfl)) (D_182 W_prog_15_method_84_code_64 20 rfl rfl rfl) ⟨Nat.le_of_ble_eq_true rfl, Nat.le_of_ble_eq_true rfl⟩) hS12 (fun q _ h => zAin X hS12 q h) (zAin X hS12) (fun p17 u17 t17 H17 locs17 ht17 hv17 hw17 hB17 hz17 hk17 hS17 => ?_)
            have hZ17 := zBack X ht17 hB17
            subst hw17
            obtain ⟨g18, hf⟩ := gif hf
            refine z0ne (tgt := 93) hx hb g18 (D_154 W_prog_15_method_84_code_64 23 rfl rfl rfl) (by decide) (fun h19 => ?_) (fun h19 => ?_)
            · replace hf := gneg hf h19
              exact b_M_choose_93 X hrec8 ih hf hZ17 hS17 (lv_sub hl [0, 1, 2, 3, 6, 7, 8] rfl)
            · replace hf := gpos hf h19
              refine lv_goto (tgt := 112) hx hb (D_167 W_prog_15_method_84_code_64 26 rfl rfl rfl) (by decide) ?_
              exact b_M_choose_112 X hrec8 ih hf hZ17 hS17 (lv_sub hl [2, 3, 4, 5, 6, 7, 8] rfl)
        · replace hf := gneg hf h14
          refine lv_goto (tgt := 112) hx hb (D_167 W_prog_15_method_84_code_64 7 rfl rfl rfl) (by decide) ?_
          exact b_M_choose_112 X hrec8 ih hf hZ12 hS12 (lv_sub hl [2, 3, 4, 5, 6, 7, 8] rfl)

def f_M_choose_8 (K : Nat) : Nat → Int → Int → Int → Int → Int → zF → zB → zO
  | 0, _, _, _, _, _, _, _ => none
  | n + 1, l7, l5, l3, l1, l2, F, B => if r32 l7 then (if 8 ≤ l7 then if r64 l3 then (if (zcmp l3 0) ≤ 0 then f_M_choose_135 K 0 F B else f_M_choose_135 K 1 F B) else none else f_M_choose_18 (f_M_choose_8 K n) K K 0 l7 l5 l3 l1 l2 F B) else none
set_option maxHeartbeats 4000000 in
set_option maxRecDepth 100000 in
theorem b_M_choose_8 {D : va_G} {ca : Nat → ClassId} {ad : Nat → Int → Nat → Nat} {L : List Nat} {aS vS : Nat → Nat} {A : Nat → Prop} {p : Program} {l : Launch} {e : Env} {s : State} {m : MethodId} {args : Array Value} {below : List Frame} {meth : Method} {c : Code} {K : Nat} {r : Int} {F9 : zF} {B9 : zB} (X : zX D ca L aS vS A p s m args meth c prog_15_method_84_code 13 (Option.some Jvm.ClassFile.FieldType.boolean) "StaveHouseModel") : ∀ {n : Nat} {l7 : Int} {l5 : Int} {l3 : Int} {l1 : Int} {l2 : Int} {F : zF} {B : zB} {H : Heap} {locs : List Loc} {ls : Array Slot}, f_M_choose_8 K n l7 l5 l3 l1 l2 F B = some (r, F9, B9) → zH D ca ad lnM nM L F B A H → va_S A s.heap H locs → lv_has ls 13 [(7, .int (iI l7)), (5, .long (lI l5)), (3, .long (lI l3)), (0, .ref (ad 14 0 0)), (1, .ref (ad 13 l1 0)), (2, .int (iI l2))] → W p l e ({ frames := 5, cells := 0, slots := 0, locals := 158 } : Room) s m args below meth c H locs 0 0 (MQ below (Q_M_choose D ca ad L r F9 B9 A) args s 0 0 A) (F0 m 8 ls []) := by
  obtain ⟨hx, hb, hr, hml, hown, hts, hlk, hK, hA, hL, hX⟩ := id X
  intro n
  induction n with
  | zero =>
    intros
    rename_i hf _ _ _
    cases hf
  | succ n ih =>
    intro l7 l5 l3 l1 l2 F B H locs ls hf hZ hS hl
    replace hf : (if r32 l7 then (if 8 ≤ l7 then if r64 l3 then (if (zcmp l3 0) ≤ 0 then f_M_choose_135 K 0 F B else f_M_choose_135 K 1 F B) else none else f_M_choose_18 (f_M_choose_8 K n) K K 0 l7 l5 l3 l1 l2 F B) else none) = some (r, F9, B9) := hf
    refine lv_iload hx hb (D_21 W_prog_15_method_84_code_0 8 rfl rfl) (lv_at hl 0 rfl) ?_
    refine lv_bipush (v := iI 8) hx hb (D_16 W_prog_15_method_84_code_0 10 rfl rfl rfl) (by decide) ?_
    obtain ⟨g1, hf⟩ := gif hf
    refine zge (tgt := 124) hx hb g1 (by decide) (D_162 W_prog_15_method_84_code_0 12 rfl rfl rfl) (by decide) (fun h2 => ?_) (fun h2 => ?_)
    · replace hf := gpos hf h2
      refine lv_lload_n hx hb (D_33 W_prog_15_method_84_code_96 28 rfl rfl) rfl (lv_at hl 2 rfl) ?_
      refine lv_lconst (v := lI 0) hx hb (D_9 W_prog_15_method_84_code_96 29 rfl rfl) (by decide) ?_
      obtain ⟨g3, hf⟩ := gif hf
      refine zcmp_r hx hb g3 (by decide) (D_148 W_prog_15_method_84_code_96 30 rfl rfl) ?_
      refine z0le (tgt := 134) hx hb zcmp_32 (D_158 W_prog_15_method_84_code_96 31 rfl rfl rfl) (by decide) (fun h4 => ?_) (fun h4 => ?_)
      · replace hf := gpos hf h4
        refine lv_iconst (v := iI 0) hx hb (D_3 W_prog_15_method_84_code_128 6 rfl rfl) rfl ?_
        exact b_M_choose_135 X hf hZ hS (lv_sub hl [] rfl)
      · replace hf := gneg hf h4
        refine lv_iconst (v := iI 1) hx hb (D_4 W_prog_15_method_84_code_128 2 rfl rfl) rfl ?_
        refine lv_goto (tgt := 135) hx hb (D_167 W_prog_15_method_84_code_128 3 rfl rfl rfl) (by decide) ?_
        exact b_M_choose_135 X hf hZ hS (lv_sub hl [] rfl)
    · replace hf := gneg hf h2
      refine lv_iconst (v := iI 0) hx hb (D_3 W_prog_15_method_84_code_0 15 rfl rfl) rfl ?_
      refine lv_istore (lv' := [(8, .int (iI 0)), (7, .int (iI l7)), (5, .long (lI l5)), (3, .long (lI l3)), (0, .ref (ad 14 0 0)), (1, .ref (ad 13 l1 0)), (2, .int (iI l2))]) hx hb (D_54 W_prog_15_method_84_code_0 16 rfl rfl) hl (by decide) rfl (fun ls hl => ?_)
      exact b_M_choose_18 X ih hf hZ hS (lv_sub hl [0, 1, 2, 3, 4, 5, 6] rfl)

def f_M_choose (K : Nat) (l1 : Int) (l2 : Int) (F : zF) (B : zB) : zO := f_M_choose_8 K K 0 1 0 l1 l2 F B
set_option maxHeartbeats 4000000 in
set_option maxRecDepth 100000 in
theorem c_M_choose {l : Launch} {D : va_G} {ca : Nat → ClassId} {ad : Nat → Int → Nat → Nat} {L : List Nat} {aS vS : Nat → Nat} {sz K : Nat}  {l1 : Int} {l2 : Int} {F F9 : zF} {B B9 : zB} {r : Int} (hf : f_M_choose K l1 l2 F B = some (r, F9, B9)) : Met l ({ cls := "StaveHouseModel", name := "choose", desc := "(LStaveHouseModel$Piece;Z)Z" } : Jvm.MethodName) (Cond.code ({ cls := "StaveHouseModel", name := "choose", desc := "(LStaveHouseModel$Piece;Z)Z" } : Jvm.MethodName) prog_15_method_84_code 13 (Option.some Jvm.ClassFile.FieldType.boolean) :: wAll) ({ frames := 5, cells := 0, slots := 0, locals := 158 } : Room) (va_Pc [.ref (ad 14 0 0), .ref (ad 13 l1 0), .int (iI l2)] (zPre D ca ad lnM nM L aS vS F B sz)) (Q_M_choose D ca ad L r F9 B9 (zA L sz)) 0 0 (zA L sz) := by
  refine zMet (Qc := Q_M_choose D ca ad L r F9 B9) (lv := [(0, .ref (ad 14 0 0)), (1, .ref (ad 13 l1 0)), (2, .int (iI l2))]) (by decide) (Nat.le_of_ble_eq_true rfl) rfl (fun A p e s m below meth c ls X hZ hS hl => ?_)
  obtain ⟨hx, hb, hr, hml, hown, hts, hlk, hK, hA, hL, hX⟩ := id X
  replace hf : (f_M_choose_8 K K 0 1 0 l1 l2 F B) = some (r, F9, B9) := hf
  refine lv_lconst (v := lI 0) hx hb (D_9 W_prog_15_method_84_code_0 0 rfl rfl) (by decide) ?_
  refine lv_lstore_n (lv' := [(3, .long (lI 0)), (0, .ref (ad 14 0 0)), (1, .ref (ad 13 l1 0)), (2, .int (iI l2))]) hx hb (D_66 W_prog_15_method_84_code_0 1 rfl rfl) rfl hl (by decide) rfl (fun ls hl => ?_)
  refine lv_lconst (v := lI 1) hx hb (D_10 W_prog_15_method_84_code_0 2 rfl rfl) (by decide) ?_
  refine lv_lstore (lv' := [(5, .long (lI 1)), (3, .long (lI 0)), (0, .ref (ad 14 0 0)), (1, .ref (ad 13 l1 0)), (2, .int (iI l2))]) hx hb (D_55 W_prog_15_method_84_code_0 3 rfl rfl) hl (by decide) rfl (fun ls hl => ?_)
  refine lv_iconst (v := iI 0) hx hb (D_3 W_prog_15_method_84_code_0 5 rfl rfl) rfl ?_
  refine lv_istore (lv' := [(7, .int (iI 0)), (5, .long (lI 1)), (3, .long (lI 0)), (0, .ref (ad 14 0 0)), (1, .ref (ad 13 l1 0)), (2, .int (iI l2))]) hx hb (D_54 W_prog_15_method_84_code_0 6 rfl rfl) hl (by decide) rfl (fun ls hl => ?_)
  exact b_M_choose_8 X hf hZ hS (lv_sub hl [0, 1, 2, 3, 4, 5] rfl)

abbrev Q_M_moment_0 (D : va_G) (ca : Nat → ClassId) (ad : Nat → Int → Nat → Nat) (L : List Nat) (r : Int) (F : zF) (B : zB) (A : Nat → Prop) : Array Value → State → Outcome → State → Prop := va_Ql (S := Unit) (fun p _ => p = lI r) (fun _ => zPo D ca ad lnM nM L F B A) A
def f_M_moment_0_208 (K : Nat) (s0 : Int) (F : zF) (B : zB) : zO := some (s0, F, B)
set_option maxHeartbeats 4000000 in
set_option maxRecDepth 100000 in
theorem b_M_moment_0_208 {D : va_G} {ca : Nat → ClassId} {ad : Nat → Int → Nat → Nat} {L : List Nat} {aS vS : Nat → Nat} {A : Nat → Prop} {p : Program} {l : Launch} {e : Env} {s : State} {m : MethodId} {args : Array Value} {below : List Frame} {meth : Method} {c : Code} {K : Nat} {r : Int} {F9 : zF} {B9 : zB} (X : zX D ca L aS vS A p s m args meth c prog_15_method_181_code 5 (Option.some Jvm.ClassFile.FieldType.long) "StaveHouseModel") {s0 : Int} {F : zF} {B : zB} {H : Heap} {locs : List Loc} {ls : Array Slot} (hf : f_M_moment_0_208 K s0 F B = some (r, F9, B9)) (hZ : zH D ca ad lnM nM L F B A H) (hS : va_S A s.heap H locs) (hl : lv_has ls 5 []) : W p l e ({ frames := 5, cells := 0, slots := 0, locals := 115 } : Room) s m args below meth c H locs 0 0 (MQ below (Q_M_moment_0 D ca ad L r F9 B9 A) args s 0 0 A) (F0 m 208 ls [.long (lI s0)]) := by
  obtain ⟨hx, hb, hr, hml, hown, hts, hlk, hK, hA, hL, hX⟩ := id X
  replace hf : (some (s0, F, B)) = some (r, F9, B9) := hf
  cases hf
  exact W.lret hx hb hr (fun t ht hW => ⟨⟨_, (), rfl, rfl, by rw [ht]; exact hZ, va_K.moved hW.alike hK⟩, hS.F ht⟩) hS.2.2 (D_173 W_prog_15_method_181_code_192 16 rfl rfl) hlk

def f_M_moment_0_35 (K : Nat)  (F : zF) (B : zB) : zO := some ((-2147483648), F, B)
set_option maxHeartbeats 4000000 in
set_option maxRecDepth 100000 in
theorem b_M_moment_0_35 {D : va_G} {ca : Nat → ClassId} {ad : Nat → Int → Nat → Nat} {L : List Nat} {aS vS : Nat → Nat} {A : Nat → Prop} {p : Program} {l : Launch} {e : Env} {s : State} {m : MethodId} {args : Array Value} {below : List Frame} {meth : Method} {c : Code} {K : Nat} {r : Int} {F9 : zF} {B9 : zB} (X : zX D ca L aS vS A p s m args meth c prog_15_method_181_code 5 (Option.some Jvm.ClassFile.FieldType.long) "StaveHouseModel")  {F : zF} {B : zB} {H : Heap} {locs : List Loc} {ls : Array Slot} (hf : f_M_moment_0_35 K  F B = some (r, F9, B9)) (hZ : zH D ca ad lnM nM L F B A H) (hS : va_S A s.heap H locs) (hl : lv_has ls 5 []) : W p l e ({ frames := 5, cells := 0, slots := 0, locals := 115 } : Room) s m args below meth c H locs 0 0 (MQ below (Q_M_moment_0 D ca ad L r F9 B9 A) args s 0 0 A) (F0 m 35 ls []) := by
  obtain ⟨hx, hb, hr, hml, hown, hts, hlk, hK, hA, hL, hX⟩ := id X
  replace hf : (some ((-2147483648), F, B)) = some (r, F9, B9) := hf
  refine lv_ldc2 hx hb hown (hts _ k_14_16) (D_20 W_prog_15_method_181_code_32 3 rfl rfl rfl) ?_
  refine W.eq (g2 := F0 m 38 ls [.long (lI (-2147483648))]) rfl ?_
  cases hf
  exact W.lret hx hb hr (fun t ht hW => ⟨⟨_, (), rfl, rfl, by rw [ht]; exact hZ, va_K.moved hW.alike hK⟩, hS.F ht⟩) hS.2.2 (D_173 W_prog_15_method_181_code_32 6 rfl rfl) hlk

def f_M_moment_0 (K : Nat) (l1 : Int) (l2 : Int) (l3 : Int) (F : zF) (B : zB) : zO := zbind (f_M_piece K l1 F B) (fun r1 F1 B1 => (if r1 < 0 then f_M_moment_0_35 K F1 B1 else if r32 l2 then (if l2 < 0 then f_M_moment_0_35 K F1 B1 else if 0 ≤ r1 ∧ r1 < 3 then if r32 (F1 13 r1 72) then (if (F1 13 r1 72) ≤ l2 then f_M_moment_0_35 K F1 B1 else if r32 l3 then (if l3 < 0 then f_M_moment_0_35 K F1 B1 else (if l3 ≤ 8 then (if l3 = 0 then if 0 ≤ l2 ∧ l2 < 800 then some (B1 13 r1 73 l2, F1, B1) else none else (if l3 = 1 then if 0 ≤ l2 ∧ l2 < 800 then some (B1 13 r1 74 l2, F1, B1) else none else zbind (f_M_chordAt K r1 l2 F1 B1) (fun r13 F13 B13 => (if l3 = 2 then if r32 (F13 14 0 100) then some (F13 14 0 100, F13, B13) else none else (if l3 = 3 then if r32 (F13 14 0 104) then some (F13 14 0 104, F13, B13) else none else if r32 (F13 14 0 104) then (if 0 ≤ (F13 14 0 104) then (if l3 = 4 then if 0 ≤ (F13 14 0 105) ∧ (F13 14 0 105) < 24 then if r32 (B13 14 0 98 (F13 14 0 105)) then some (B13 14 0 98 (F13 14 0 105), F13, B13) else none else none else (if l3 = 5 then if 0 ≤ (F13 14 0 105) ∧ (F13 14 0 105) < 24 then if r32 (B13 14 0 99 (F13 14 0 105)) then some (B13 14 0 99 (F13 14 0 105), F13, B13) else none else none else (if l3 = 6 then if 0 ≤ (F13 14 0 105) ∧ (F13 14 0 105) < 24 then zbind (f_M_mod K ((zrm (F13 14 0 102) 7) - (B13 14 0 98 (F13 14 0 105))) 7 F13 B13) (fun r30 F30 B30 => if r32 (zdv r30 2) then some (zdv r30 2, F30, B30) else none) else none else (if l3 = 7 then if 0 ≤ (F13 14 0 105) ∧ (F13 14 0 105) < 24 then zbind (f_M_tonicLetter K r1 F13 B13) (fun r26 F26 B26 => zbind (f_M_mod K ((B13 14 0 98 (F13 14 0 105)) - r26) 7 F26 B26) (fun r27 F27 B27 => if r32 r27 then some (r27, F27, B27) else none)) else none else zbind (f_M_isForeign K r1 F13 B13) (fun r22 F22 B22 => if r32 r22 then (if r22 = 0 then f_M_moment_0_208 K 0 F22 B22 else f_M_moment_0_208 K 1 F22 B22) else none))))) else some (0, F13, B13)) else none))))) else f_M_moment_0_35 K F1 B1)) else none) else none else none) else none))
set_option maxHeartbeats 4000000 in
set_option maxRecDepth 100000 in
theorem c_M_moment_0 {l : Launch} {D : va_G} {ca : Nat → ClassId} {ad : Nat → Int → Nat → Nat} {L : List Nat} {aS vS : Nat → Nat} {sz K : Nat}  {l1 : Int} {l2 : Int} {l3 : Int} {F F9 : zF} {B B9 : zB} {r : Int} (hf : f_M_moment_0 K l1 l2 l3 F B = some (r, F9, B9)) : Met l ({ cls := "StaveHouseModel", name := "moment", desc := "(III)J" } : Jvm.MethodName) (Cond.code ({ cls := "StaveHouseModel", name := "moment", desc := "(III)J" } : Jvm.MethodName) prog_15_method_181_code 5 (Option.some Jvm.ClassFile.FieldType.long) :: wAll) ({ frames := 5, cells := 0, slots := 0, locals := 115 } : Room) (va_Pc [.ref (ad 14 0 0), .int (iI l1), .int (iI l2), .int (iI l3)] (zPre D ca ad lnM nM L aS vS F B sz)) (Q_M_moment_0 D ca ad L r F9 B9 (zA L sz)) 0 0 (zA L sz) := by
  refine zMet (Qc := Q_M_moment_0 D ca ad L r F9 B9) (lv := [(0, .ref (ad 14 0 0)), (1, .int (iI l1)), (2, .int (iI l2)), (3, .int (iI l3))]) (by decide) (Nat.le_of_ble_eq_true rfl) rfl (fun A p e s m below meth c ls X hZ hS hl => ?_)
  obtain ⟨hx, hb, hr, hml, hown, hts, hlk, hK, hA, hL, hX⟩ := id X
  replace hf : (zbind (f_M_piece K l1 F B) (fun r1 F1 B1 => (if r1 < 0 then f_M_moment_0_35 K F1 B1 else if r32 l2 then (if l2 < 0 then f_M_moment_0_35 K F1 B1 else if 0 ≤ r1 ∧ r1 < 3 then if r32 (F1 13 r1 72) then (if (F1 13 r1 72) ≤ l2 then f_M_moment_0_35 K F1 B1 else if r32 l3 then (if l3 < 0 then f_M_moment_0_35 K F1 B1 else (if l3 ≤ 8 then (if l3 = 0 then if 0 ≤ l2 ∧ l2 < 800 then some (B1 13 r1 73 l2, F1, B1) else none else (if l3 = 1 then if 0 ≤ l2 ∧ l2 < 800 then some (B1 13 r1 74 l2, F1, B1) else none else zbind (f_M_chordAt K r1 l2 F1 B1) (fun r13 F13 B13 => (if l3 = 2 then if r32 (F13 14 0 100) then some (F13 14 0 100, F13, B13) else none else (if l3 = 3 then if r32 (F13 14 0 104) then some (F13 14 0 104, F13, B13) else none else if r32 (F13 14 0 104) then (if 0 ≤ (F13 14 0 104) then (if l3 = 4 then if 0 ≤ (F13 14 0 105) ∧ (F13 14 0 105) < 24 then if r32 (B13 14 0 98 (F13 14 0 105)) then some (B13 14 0 98 (F13 14 0 105), F13, B13) else none else none else (if l3 = 5 then if 0 ≤ (F13 14 0 105) ∧ (F13 14 0 105) < 24 then if r32 (B13 14 0 99 (F13 14 0 105)) then some (B13 14 0 99 (F13 14 0 105), F13, B13) else none else none else (if l3 = 6 then if 0 ≤ (F13 14 0 105) ∧ (F13 14 0 105) < 24 then zbind (f_M_mod K ((zrm (F13 14 0 102) 7) - (B13 14 0 98 (F13 14 0 105))) 7 F13 B13) (fun r30 F30 B30 => if r32 (zdv r30 2) then some (zdv r30 2, F30, B30) else none) else none else (if l3 = 7 then if 0 ≤ (F13 14 0 105) ∧ (F13 14 0 105) < 24 then zbind (f_M_tonicLetter K r1 F13 B13) (fun r26 F26 B26 => zbind (f_M_mod K ((B13 14 0 98 (F13 14 0 105)) - r26) 7 F26 B26) (fun r27 F27 B27 => if r32 r27 then some (r27, F27, B27) else none)) else none else zbind (f_M_isForeign K r1 F13 B13) (fun r22 F22 B22 => if r32 r22 then (if r22 = 0 then f_M_moment_0_208 K 0 F22 B22 else f_M_moment_0_208 K 1 F22 B22) else none))))) else some (0, F13, B13)) else none))))) else f_M_moment_0_35 K F1 B1)) else none) else none else none) else none))) = some (r, F9, B9) := hf
  refine lv_aload_n hx hb (D_42 W_prog_15_method_181_code_0 0 rfl rfl) rfl (lv_at hl 0 rfl) ?_
  refine lv_iload_n hx hb (D_27 W_prog_15_method_181_code_0 1 rfl rfl) rfl (lv_at hl 1 rfl) ?_
  obtain ⟨r1, F1, B1, hc1, hf⟩ := gbind hf
  refine va_callq (va_runV (As := [.int (iI l1)]) (rest := []) ⟨hx, hb, hml, hown, hts⟩ (c_M_piece (l := l) hc1) (cwV 1 hts (gdV k_12_92 k_12_94 ks_131 k_1_9 k_12_95) rfl rfl rfl (by decide +kernel) ⟨Nat.le_of_ble_eq_true rfl, Nat.le_of_ble_eq_true rfl⟩) (zPV X hZ hS (ci := 14) (by decide) (by decide) (r := (RX14, TX14, 107)) rfl [.int (iI l1)]) rfl rfl hl.1 rfl (lv_room (Nat.le_of_ble_eq_true rfl)) (D_182 W_prog_15_method_181_code_0 2 rfl rfl rfl) ⟨Nat.le_of_ble_eq_true rfl, Nat.le_of_ble_eq_true rfl⟩) hS (fun q _ h => zAin X hS q h) (zAin X hS) (fun p1 u1 t1 H1 locs1 ht1 hv1 hw1 hB1 hz1 hk1 hS1 => ?_)
  have hZ1 := zBack X ht1 hB1
  subst hw1
  refine zastore (lv' := [(0, .ref (ad 14 0 0)), (1, .int (iI l1)), (2, .int (iI l2)), (3, .int (iI l3))]) hx hb (D_58 W_prog_15_method_181_code_0 5 rfl rfl) hl (by decide) (fun _ _ => rfl) (fun ls hl => ?_)
  refine zaload hx hb (D_25 W_prog_15_method_181_code_0 7 rfl rfl) (lv_at hl 0 rfl) ?_
  refine zifnull (tgt := 35) hx hb (D_198 W_prog_15_method_181_code_0 9 rfl rfl rfl) (by decide) (fun h2 => ?_) (fun h2 => ?_)
  · replace hf := gpos hf h2
    exact b_M_moment_0_35 X hf hZ1 hS1 (lv_sub hl [] rfl)
  · replace hf := gneg hf h2
    refine lv_iload_n hx hb (D_28 W_prog_15_method_181_code_0 12 rfl rfl) rfl (lv_at hl 3 rfl) ?_
    obtain ⟨g3, hf⟩ := gif hf
    refine z0lt (tgt := 35) hx hb g3 (D_155 W_prog_15_method_181_code_0 13 rfl rfl rfl) (by decide) (fun h4 => ?_) (fun h4 => ?_)
    · replace hf := gpos hf h4
      exact b_M_moment_0_35 X hf hZ1 hS1 (lv_sub hl [] rfl)
    · replace hf := gneg hf h4
      refine lv_iload_n hx hb (D_28 W_prog_15_method_181_code_0 16 rfl rfl) rfl (lv_at hl 3 rfl) ?_
      refine zaload hx hb (D_25 W_prog_15_method_181_code_0 17 rfl rfl) (lv_at hl 0 rfl) ?_
      obtain ⟨g5, hf⟩ := gif hf
      refine zunrf g5.1 ?_
      refine zget (ci := 13) (C := RX13) (T := TX13) (v := .int (iI (F1 13 r1 72))) (k := 72) hx hb hts inW_13 hown hK hZ1 g5.1 g5.2 rfl (by decide) k_10_11 rfl (D_180 W_prog_15_method_181_code_0 19 rfl rfl rfl) ?_
      obtain ⟨g6, hf⟩ := gif hf
      refine zge (tgt := 35) hx hb g3 g6 (D_162 W_prog_15_method_181_code_0 22 rfl rfl rfl) (by decide) (fun h7 => ?_) (fun h7 => ?_)
      · replace hf := gpos hf h7
        exact b_M_moment_0_35 X hf hZ1 hS1 (lv_sub hl [] rfl)
      · replace hf := gneg hf h7
        refine lv_iload_n hx hb (D_29 W_prog_15_method_181_code_0 25 rfl rfl) rfl (lv_at hl 4 rfl) ?_
        obtain ⟨g8, hf⟩ := gif hf
        refine z0lt (tgt := 35) hx hb g8 (D_155 W_prog_15_method_181_code_0 26 rfl rfl rfl) (by decide) (fun h9 => ?_) (fun h9 => ?_)
        · replace hf := gpos hf h9
          exact b_M_moment_0_35 X hf hZ1 hS1 (lv_sub hl [] rfl)
        · replace hf := gneg hf h9
          refine lv_iload_n hx hb (D_29 W_prog_15_method_181_code_0 29 rfl rfl) rfl (lv_at hl 4 rfl) ?_
          refine lv_bipush (v := iI 8) hx hb (D_16 W_prog_15_method_181_code_0 30 rfl rfl rfl) (by decide) ?_
          refine zle (tgt := 39) hx hb g8 (by decide) (D_164 W_prog_15_method_181_code_32 0 rfl rfl rfl) (by decide) (fun h10 => ?_) (fun h10 => ?_)
          · replace hf := gpos hf h10
            refine lv_iload_n hx hb (D_29 W_prog_15_method_181_code_32 7 rfl rfl) rfl (lv_at hl 4 rfl) ?_
            refine z0ne (tgt := 51) hx hb g8 (D_154 W_prog_15_method_181_code_32 8 rfl rfl rfl) (by decide) (fun h11 => ?_) (fun h11 => ?_)
            · replace hf := gneg hf h11
              refine lv_iload_n hx hb (D_29 W_prog_15_method_181_code_32 19 rfl rfl) rfl (lv_at hl 4 rfl) ?_
              refine lv_iconst (v := iI 1) hx hb (D_4 W_prog_15_method_181_code_32 20 rfl rfl) rfl ?_
              refine zne (tgt := 64) hx hb g8 (by decide) (D_160 W_prog_15_method_181_code_32 21 rfl rfl rfl) (by decide) (fun h12 => ?_) (fun h12 => ?_)
              · replace hf := gneg hf h12
                refine lv_aload_n hx hb (D_42 W_prog_15_method_181_code_64 0 rfl rfl) rfl (lv_at hl 1 rfl) ?_
                refine zaload hx hb (D_25 W_prog_15_method_181_code_64 1 rfl rfl) (lv_at hl 0 rfl) ?_
                refine lv_iload_n hx hb (D_28 W_prog_15_method_181_code_64 3 rfl rfl) rfl (lv_at hl 3 rfl) ?_
                refine W.eq (g2 := F0 m 68 ls [.int (iI l2), .ref (ad 13 r1 0), .ref (ad 14 0 0)]) (by rw [zrf_pos (ad := ad) (t := 13) g5.1]; try rfl) ?_
                obtain ⟨r13, F13, B13, hc13, hf⟩ := gbind hf
                refine va_callv (va_runV (As := [.ref (ad 13 r1 0), .int (iI l2)]) (rest := []) ⟨hx, hb, hml, hown, hts⟩ (c_M_chordAt (l := l) hc13) (cwV 2 hts (gdV k_14_17 k_14_19 ks_188 k_1_9 k_14_20) rfl rfl rfl (by decide +kernel) ⟨Nat.le_of_ble_eq_true rfl, Nat.le_of_ble_eq_true rfl⟩) (zPV X hZ1 hS1 (ci := 14) (by decide) (by decide) (r := (RX14, TX14, 107)) rfl [.ref (ad 13 r1 0), .int (iI l2)]) rfl rfl hl.1 rfl (lv_room (Nat.le_of_ble_eq_true rfl)) (D_182 W_prog_15_method_181_code_64 4 rfl rfl rfl) ⟨Nat.le_of_ble_eq_true rfl, Nat.le_of_ble_eq_true rfl⟩) hS1 (fun q _ h => zAin X hS1 q h) (zAin X hS1) (fun u13 t13 H13 locs13 ht13 hv13 hw13 hB13 hz13 hk13 hS13 => ?_)
                have hZ13 := zBack X ht13 hB13
                refine lv_iload_n hx hb (D_29 W_prog_15_method_181_code_64 7 rfl rfl) rfl (lv_at hl 4 rfl) ?_
                refine lv_iconst (v := iI 2) hx hb (D_5 W_prog_15_method_181_code_64 8 rfl rfl) rfl ?_
                refine zne (tgt := 82) hx hb g8 (by decide) (D_160 W_prog_15_method_181_code_64 9 rfl rfl rfl) (by decide) (fun h14 => ?_) (fun h14 => ?_)
                · replace hf := gneg hf h14
                  refine lv_iload_n hx hb (D_29 W_prog_15_method_181_code_64 18 rfl rfl) rfl (lv_at hl 4 rfl) ?_
                  refine lv_iconst (v := iI 3) hx hb (D_6 W_prog_15_method_181_code_64 19 rfl rfl) rfl ?_
                  refine zne (tgt := 93) hx hb g8 (by decide) (D_160 W_prog_15_method_181_code_64 20 rfl rfl rfl) (by decide) (fun h15 => ?_) (fun h15 => ?_)
                  · replace hf := gneg hf h15
                    refine lv_aload_n hx hb (D_42 W_prog_15_method_181_code_64 29 rfl rfl) rfl (lv_at hl 1 rfl) ?_
                    refine zget (ci := 14) (C := RX14) (T := TX14) (v := .int (iI (F13 14 0 104))) (k := 104) hx hb hts inW_14 hown hK hZ13 (by decide) (by decide) rfl (by decide) k_11_102 rfl (D_180 W_prog_15_method_181_code_64 30 rfl rfl rfl) ?_
                    obtain ⟨g16, hf⟩ := gif hf
                    refine z0ge (tgt := 102) hx hb g16 (D_156 W_prog_15_method_181_code_96 1 rfl rfl rfl) (by decide) (fun h17 => ?_) (fun h17 => ?_)
                    · replace hf := gpos hf h17
                      refine lv_iload_n hx hb (D_29 W_prog_15_method_181_code_96 6 rfl rfl) rfl (lv_at hl 4 rfl) ?_
                      refine lv_iconst (v := iI 4) hx hb (D_7 W_prog_15_method_181_code_96 7 rfl rfl) rfl ?_
                      refine zne (tgt := 118) hx hb g8 (by decide) (D_160 W_prog_15_method_181_code_96 8 rfl rfl rfl) (by decide) (fun h18 => ?_) (fun h18 => ?_)
                      · replace hf := gneg hf h18
                        refine lv_iload_n hx hb (D_29 W_prog_15_method_181_code_96 22 rfl rfl) rfl (lv_at hl 4 rfl) ?_
                        refine lv_iconst (v := iI 5) hx hb (D_8 W_prog_15_method_181_code_96 23 rfl rfl) rfl ?_
                        refine zne (tgt := 134) hx hb g8 (by decide) (D_160 W_prog_15_method_181_code_96 24 rfl rfl rfl) (by decide) (fun h19 => ?_) (fun h19 => ?_)
                        · replace hf := gneg hf h19
                          refine lv_iload_n hx hb (D_29 W_prog_15_method_181_code_128 6 rfl rfl) rfl (lv_at hl 4 rfl) ?_
                          refine lv_bipush (v := iI 6) hx hb (D_16 W_prog_15_method_181_code_128 7 rfl rfl rfl) (by decide) ?_
                          refine zne (tgt := 166) hx hb g8 (by decide) (D_160 W_prog_15_method_181_code_128 9 rfl rfl rfl) (by decide) (fun h20 => ?_) (fun h20 => ?_)
                          · replace hf := gneg hf h20
                            refine lv_iload_n hx hb (D_29 W_prog_15_method_181_code_160 6 rfl rfl) rfl (lv_at hl 4 rfl) ?_
                            refine lv_bipush (v := iI 7) hx hb (D_16 W_prog_15_method_181_code_160 7 rfl rfl rfl) (by decide) ?_
                            refine zne (tgt := 194) hx hb g8 (by decide) (D_160 W_prog_15_method_181_code_160 9 rfl rfl rfl) (by decide) (fun h21 => ?_) (fun h21 => ?_)
                            · replace hf := gneg hf h21
                              refine lv_aload_n hx hb (D_42 W_prog_15_method_181_code_192 2 rfl rfl) rfl (lv_at hl 1 rfl) ?_
                              refine zaload hx hb (D_25 W_prog_15_method_181_code_192 3 rfl rfl) (lv_at hl 0 rfl) ?_
                              refine W.eq (g2 := F0 m 197 ls [.ref (ad 13 r1 0), .ref (ad 14 0 0)]) (by rw [zrf_pos (ad := ad) (t := 13) g5.1]; try rfl) ?_
                              obtain ⟨r22, F22, B22, hc22, hf⟩ := gbind hf
                              refine va_calli (va_runV (As := [.ref (ad 13 r1 0)]) (rest := []) ⟨hx, hb, hml, hown, hts⟩ (c_M_isForeign (l := l) hc22) (cwV 1 hts (gdV k_14_46 k_14_48 ks_193 k_1_9 k_14_49) rfl rfl rfl (by decide +kernel) ⟨Nat.le_of_ble_eq_true rfl, Nat.le_of_ble_eq_true rfl⟩) (zPV X hZ13 hS13 (ci := 14) (by decide) (by decide) (r := (RX14, TX14, 107)) rfl [.ref (ad 13 r1 0)]) rfl rfl hl.1 rfl (lv_room (Nat.le_of_ble_eq_true rfl)) (D_182 W_prog_15_method_181_code_192 5 rfl rfl rfl) ⟨Nat.le_of_ble_eq_true rfl, Nat.le_of_ble_eq_true rfl⟩) hS13 (fun q _ h => zAin X hS13 q h) (zAin X hS13) (fun p22 u22 t22 H22 locs22 ht22 hv22 hw22 hB22 hz22 hk22 hS22 => ?_)
                              have hZ22 := zBack X ht22 hB22
                              subst hw22
                              obtain ⟨g23, hf⟩ := gif hf
                              refine z0eq (tgt := 207) hx hb g23 (D_153 W_prog_15_method_181_code_192 8 rfl rfl rfl) (by decide) (fun h24 => ?_) (fun h24 => ?_)
                              · replace hf := gpos hf h24
                                refine lv_lconst (v := lI 0) hx hb (D_9 W_prog_15_method_181_code_192 15 rfl rfl) (by decide) ?_
                                exact b_M_moment_0_208 X hf hZ22 hS22 (lv_sub hl [] rfl)
                              · replace hf := gneg hf h24
                                refine lv_lconst (v := lI 1) hx hb (D_10 W_prog_15_method_181_code_192 11 rfl rfl) (by decide) ?_
                                refine lv_goto (tgt := 208) hx hb (D_167 W_prog_15_method_181_code_192 12 rfl rfl rfl) (by decide) ?_
                                exact b_M_moment_0_208 X hf hZ22 hS22 (lv_sub hl [] rfl)
                            · replace hf := gpos hf h21
                              refine lv_aload_n hx hb (D_42 W_prog_15_method_181_code_160 12 rfl rfl) rfl (lv_at hl 1 rfl) ?_
                              refine zget (ci := 14) (C := RX14) (T := TX14) (v := .ref (ad 14 0 (98 + 1))) (k := 98) hx hb hts inW_14 hown hK hZ13 (by decide) (by decide) rfl (by decide) k_11_96 rfl (D_180 W_prog_15_method_181_code_160 13 rfl rfl rfl) ?_
                              refine lv_aload_n hx hb (D_42 W_prog_15_method_181_code_160 16 rfl rfl) rfl (lv_at hl 1 rfl) ?_
                              refine zget (ci := 14) (C := RX14) (T := TX14) (v := .int (iI (F13 14 0 105))) (k := 105) hx hb hts inW_14 hown hK hZ13 (by decide) (by decide) rfl (by decide) k_11_103 rfl (D_180 W_prog_15_method_181_code_160 17 rfl rfl rfl) ?_
                              obtain ⟨g25, hf⟩ := gif hf
                              refine zald (ci := 14) (k := 98) hx hb hK rfl hZ13 (by decide) (by decide) rfl (Nat.le_of_ble_eq_true rfl) g25.1 g25.2 (D_46 W_prog_15_method_181_code_160 20 rfl rfl) ?_
                              refine zaload hx hb (D_25 W_prog_15_method_181_code_160 21 rfl rfl) (lv_at hl 0 rfl) ?_
                              refine W.eq (g2 := F0 m 183 ls [.ref (ad 13 r1 0), .int (iI (B13 14 0 98 (F13 14 0 105)))]) (by rw [zrf_pos (ad := ad) (t := 13) g5.1]; try rfl) ?_
                              obtain ⟨r26, F26, B26, hc26, hf⟩ := gbind hf
                              refine va_calli (va_runS (As := [.ref (ad 13 r1 0)]) (rest := [.int (iI (B13 14 0 98 (F13 14 0 105)))]) ⟨hx, hb, hml, hown, hts⟩ (c_M_tonicLetter (l := l) hc26) (va_cwS 1 hts (gdS k_14_43 k_14_44 k_1_9 k_14_45) rfl rfl rfl (by decide +kernel) ⟨Nat.le_of_ble_eq_true rfl, Nat.le_of_ble_eq_true rfl⟩) (zPS X hZ13 hS13 [.ref (ad 13 r1 0)]) rfl rfl hl.1 rfl (lv_room (Nat.le_of_ble_eq_true rfl)) (D_184 W_prog_15_method_181_code_160 23 rfl rfl rfl) ⟨Nat.le_of_ble_eq_true rfl, Nat.le_of_ble_eq_true rfl⟩) hS13 (fun q _ h => zAin X hS13 q h) (zAin X hS13) (fun p26 u26 t26 H26 locs26 ht26 hv26 hw26 hB26 hz26 hk26 hS26 => ?_)
                              have hZ26 := zBack X ht26 hB26
                              subst hw26
                              refine zsub hx hb (D_100 W_prog_15_method_181_code_160 26 rfl rfl) ?_
                              refine lv_bipush (v := iI 7) hx hb (D_16 W_prog_15_method_181_code_160 27 rfl rfl rfl) (by decide) ?_
                              obtain ⟨r27, F27, B27, hc27, hf⟩ := gbind hf
                              refine va_calli (va_runS (As := [.int (iI ((B13 14 0 98 (F13 14 0 105)) - r26)), .int (iI 7)]) (rest := []) ⟨hx, hb, hml, hown, hts⟩ (c_M_mod (l := l) hc27) (va_cwS 2 hts (gdS k_12_164 k_12_165 k_1_9 k_12_166) rfl rfl rfl (by decide +kernel) ⟨Nat.le_of_ble_eq_true rfl, Nat.le_of_ble_eq_true rfl⟩) (zPS X hZ26 hS26 [.int (iI ((B13 14 0 98 (F13 14 0 105)) - r26)), .int (iI 7)]) rfl rfl hl.1 rfl (lv_room (Nat.le_of_ble_eq_true rfl)) (D_184 W_prog_15_method_181_code_160 29 rfl rfl rfl) ⟨Nat.le_of_ble_eq_true rfl, Nat.le_of_ble_eq_true rfl⟩) hS26 (fun q _ h => zAin X hS26 q h) (zAin X hS26) (fun p27 u27 t27 H27 locs27 ht27 hv27 hw27 hB27 hz27 hk27 hS27 => ?_)
                              have hZ27 := zBack X ht27 hB27
                              subst hw27
                              obtain ⟨g28, hf⟩ := gif hf
                              refine zi2l hx hb g28 (D_133 W_prog_15_method_181_code_192 0 rfl rfl) ?_
                              cases hf
                              exact W.lret hx hb hr (fun t ht hW => ⟨⟨_, (), rfl, rfl, by rw [ht]; exact hZ27, va_K.moved hW.alike hK⟩, hS27.F ht⟩) hS27.2.2 (D_173 W_prog_15_method_181_code_192 1 rfl rfl) hlk
                          · replace hf := gpos hf h20
                            refine lv_aload_n hx hb (D_42 W_prog_15_method_181_code_128 12 rfl rfl) rfl (lv_at hl 1 rfl) ?_
                            refine zget (ci := 14) (C := RX14) (T := TX14) (v := .int (iI (F13 14 0 102))) (k := 102) hx hb hts inW_14 hown hK hZ13 (by decide) (by decide) rfl (by decide) k_11_100 rfl (D_180 W_prog_15_method_181_code_128 13 rfl rfl rfl) ?_
                            refine lv_bipush (v := iI 7) hx hb (D_16 W_prog_15_method_181_code_128 16 rfl rfl rfl) (by decide) ?_
                            refine zrm_r hx hb (by decide) (D_112 W_prog_15_method_181_code_128 18 rfl rfl) ?_
                            refine lv_aload_n hx hb (D_42 W_prog_15_method_181_code_128 19 rfl rfl) rfl (lv_at hl 1 rfl) ?_
                            refine zget (ci := 14) (C := RX14) (T := TX14) (v := .ref (ad 14 0 (98 + 1))) (k := 98) hx hb hts inW_14 hown hK hZ13 (by decide) (by decide) rfl (by decide) k_11_96 rfl (D_180 W_prog_15_method_181_code_128 20 rfl rfl rfl) ?_
                            refine lv_aload_n hx hb (D_42 W_prog_15_method_181_code_128 23 rfl rfl) rfl (lv_at hl 1 rfl) ?_
                            refine zget (ci := 14) (C := RX14) (T := TX14) (v := .int (iI (F13 14 0 105))) (k := 105) hx hb hts inW_14 hown hK hZ13 (by decide) (by decide) rfl (by decide) k_11_103 rfl (D_180 W_prog_15_method_181_code_128 24 rfl rfl rfl) ?_
                            obtain ⟨g29, hf⟩ := gif hf
                            refine zald (ci := 14) (k := 98) hx hb hK rfl hZ13 (by decide) (by decide) rfl (Nat.le_of_ble_eq_true rfl) g29.1 g29.2 (D_46 W_prog_15_method_181_code_128 27 rfl rfl) ?_
                            refine zsub hx hb (D_100 W_prog_15_method_181_code_128 28 rfl rfl) ?_
                            refine lv_bipush (v := iI 7) hx hb (D_16 W_prog_15_method_181_code_128 29 rfl rfl rfl) (by decide) ?_
                            obtain ⟨r30, F30, B30, hc30, hf⟩ := gbind hf
                            refine va_calli (va_runS (As := [.int (iI ((zrm (F13 14 0 102) 7) - (B13 14 0 98 (F13 14 0 105)))), .int (iI 7)]) (rest := []) ⟨hx, hb, hml, hown, hts⟩ (c_M_mod (l := l) hc30) (va_cwS 2 hts (gdS k_12_164 k_12_165 k_1_9 k_12_166) rfl rfl rfl (by decide +kernel) ⟨Nat.le_of_ble_eq_true rfl, Nat.le_of_ble_eq_true rfl⟩) (zPS X hZ13 hS13 [.int (iI ((zrm (F13 14 0 102) 7) - (B13 14 0 98 (F13 14 0 105)))), .int (iI 7)]) rfl rfl hl.1 rfl (lv_room (Nat.le_of_ble_eq_true rfl)) (D_184 W_prog_15_method_181_code_128 31 rfl rfl rfl) ⟨Nat.le_of_ble_eq_true rfl, Nat.le_of_ble_eq_true rfl⟩) hS13 (fun q _ h => zAin X hS13 q h) (zAin X hS13) (fun p30 u30 t30 H30 locs30 ht30 hv30 hw30 hB30 hz30 hk30 hS30 => ?_)
                            have hZ30 := zBack X ht30 hB30
                            subst hw30
                            refine lv_iconst (v := iI 2) hx hb (D_5 W_prog_15_method_181_code_160 2 rfl rfl) rfl ?_
                            refine zdv_r hx hb (by decide) (D_108 W_prog_15_method_181_code_160 3 rfl rfl) ?_
                            obtain ⟨g31, hf⟩ := gif hf
                            refine zi2l hx hb g31 (D_133 W_prog_15_method_181_code_160 4 rfl rfl) ?_
                            cases hf
                            exact W.lret hx hb hr (fun t ht hW => ⟨⟨_, (), rfl, rfl, by rw [ht]; exact hZ30, va_K.moved hW.alike hK⟩, hS30.F ht⟩) hS30.2.2 (D_173 W_prog_15_method_181_code_160 5 rfl rfl) hlk
                        · replace hf := gpos hf h19
                          refine lv_aload_n hx hb (D_42 W_prog_15_method_181_code_96 27 rfl rfl) rfl (lv_at hl 1 rfl) ?_
                          refine zget (ci := 14) (C := RX14) (T := TX14) (v := .ref (ad 14 0 (99 + 1))) (k := 99) hx hb hts inW_14 hown hK hZ13 (by decide) (by decide) rfl (by decide) k_11_97 rfl (D_180 W_prog_15_method_181_code_96 28 rfl rfl rfl) ?_
                          refine lv_aload_n hx hb (D_42 W_prog_15_method_181_code_96 31 rfl rfl) rfl (lv_at hl 1 rfl) ?_
                          refine zget (ci := 14) (C := RX14) (T := TX14) (v := .int (iI (F13 14 0 105))) (k := 105) hx hb hts inW_14 hown hK hZ13 (by decide) (by decide) rfl (by decide) k_11_103 rfl (D_180 W_prog_15_method_181_code_128 0 rfl rfl rfl) ?_
                          obtain ⟨g33, hf⟩ := gif hf
                          refine zald (ci := 14) (k := 99) hx hb hK rfl hZ13 (by decide) (by decide) rfl (Nat.le_of_ble_eq_true rfl) g33.1 g33.2 (D_46 W_prog_15_method_181_code_128 3 rfl rfl) ?_
                          obtain ⟨g34, hf⟩ := gif hf
                          refine zi2l hx hb g34 (D_133 W_prog_15_method_181_code_128 4 rfl rfl) ?_
                          cases hf
                          exact W.lret hx hb hr (fun t ht hW => ⟨⟨_, (), rfl, rfl, by rw [ht]; exact hZ13, va_K.moved hW.alike hK⟩, hS13.F ht⟩) hS13.2.2 (D_173 W_prog_15_method_181_code_128 5 rfl rfl) hlk
                      · replace hf := gpos hf h18
                        refine lv_aload_n hx hb (D_42 W_prog_15_method_181_code_96 11 rfl rfl) rfl (lv_at hl 1 rfl) ?_
                        refine zget (ci := 14) (C := RX14) (T := TX14) (v := .ref (ad 14 0 (98 + 1))) (k := 98) hx hb hts inW_14 hown hK hZ13 (by decide) (by decide) rfl (by decide) k_11_96 rfl (D_180 W_prog_15_method_181_code_96 12 rfl rfl rfl) ?_
                        refine lv_aload_n hx hb (D_42 W_prog_15_method_181_code_96 15 rfl rfl) rfl (lv_at hl 1 rfl) ?_
                        refine zget (ci := 14) (C := RX14) (T := TX14) (v := .int (iI (F13 14 0 105))) (k := 105) hx hb hts inW_14 hown hK hZ13 (by decide) (by decide) rfl (by decide) k_11_103 rfl (D_180 W_prog_15_method_181_code_96 16 rfl rfl rfl) ?_
                        obtain ⟨g35, hf⟩ := gif hf
                        refine zald (ci := 14) (k := 98) hx hb hK rfl hZ13 (by decide) (by decide) rfl (Nat.le_of_ble_eq_true rfl) g35.1 g35.2 (D_46 W_prog_15_method_181_code_96 19 rfl rfl) ?_
                        obtain ⟨g36, hf⟩ := gif hf
                        refine zi2l hx hb g36 (D_133 W_prog_15_method_181_code_96 20 rfl rfl) ?_
                        cases hf
                        exact W.lret hx hb hr (fun t ht hW => ⟨⟨_, (), rfl, rfl, by rw [ht]; exact hZ13, va_K.moved hW.alike hK⟩, hS13.F ht⟩) hS13.2.2 (D_173 W_prog_15_method_181_code_96 21 rfl rfl) hlk
                    · replace hf := gneg hf h17
                      refine lv_lconst (v := lI 0) hx hb (D_9 W_prog_15_method_181_code_96 4 rfl rfl) (by decide) ?_
                      cases hf
                      exact W.lret hx hb hr (fun t ht hW => ⟨⟨_, (), rfl, rfl, by rw [ht]; exact hZ13, va_K.moved hW.alike hK⟩, hS13.F ht⟩) hS13.2.2 (D_173 W_prog_15_method_181_code_96 5 rfl rfl) hlk
                  · replace hf := gpos hf h15
                    refine lv_aload_n hx hb (D_42 W_prog_15_method_181_code_64 23 rfl rfl) rfl (lv_at hl 1 rfl) ?_
                    refine zget (ci := 14) (C := RX14) (T := TX14) (v := .int (iI (F13 14 0 104))) (k := 104) hx hb hts inW_14 hown hK hZ13 (by decide) (by decide) rfl (by decide) k_11_102 rfl (D_180 W_prog_15_method_181_code_64 24 rfl rfl rfl) ?_
                    obtain ⟨g37, hf⟩ := gif hf
                    refine zi2l hx hb g37 (D_133 W_prog_15_method_181_code_64 27 rfl rfl) ?_
                    cases hf
                    exact W.lret hx hb hr (fun t ht hW => ⟨⟨_, (), rfl, rfl, by rw [ht]; exact hZ13, va_K.moved hW.alike hK⟩, hS13.F ht⟩) hS13.2.2 (D_173 W_prog_15_method_181_code_64 28 rfl rfl) hlk
                · replace hf := gpos hf h14
                  refine lv_aload_n hx hb (D_42 W_prog_15_method_181_code_64 12 rfl rfl) rfl (lv_at hl 1 rfl) ?_
                  refine zget (ci := 14) (C := RX14) (T := TX14) (v := .int (iI (F13 14 0 100))) (k := 100) hx hb hts inW_14 hown hK hZ13 (by decide) (by decide) rfl (by decide) k_11_98 rfl (D_180 W_prog_15_method_181_code_64 13 rfl rfl rfl) ?_
                  obtain ⟨g38, hf⟩ := gif hf
                  refine zi2l hx hb g38 (D_133 W_prog_15_method_181_code_64 16 rfl rfl) ?_
                  cases hf
                  exact W.lret hx hb hr (fun t ht hW => ⟨⟨_, (), rfl, rfl, by rw [ht]; exact hZ13, va_K.moved hW.alike hK⟩, hS13.F ht⟩) hS13.2.2 (D_173 W_prog_15_method_181_code_64 17 rfl rfl) hlk
              · replace hf := gpos hf h12
                refine zaload hx hb (D_25 W_prog_15_method_181_code_32 24 rfl rfl) (lv_at hl 0 rfl) ?_
                refine zunrf g5.1 ?_
                refine zget (ci := 13) (C := RX13) (T := TX13) (v := .ref (ad 13 r1 (74 + 1))) (k := 74) hx hb hts inW_13 hown hK hZ1 g5.1 g5.2 rfl (by decide) k_10_15 rfl (D_180 W_prog_15_method_181_code_32 26 rfl rfl rfl) ?_
                refine lv_iload_n hx hb (D_28 W_prog_15_method_181_code_32 29 rfl rfl) rfl (lv_at hl 3 rfl) ?_
                obtain ⟨g39, hf⟩ := gif hf
                refine zlald (ci := 13) (k := 74) hx hb hK rfl hZ1 g5.1 g5.2 rfl (Nat.le_of_ble_eq_true rfl) g39.1 g39.2 (D_47 W_prog_15_method_181_code_32 30 rfl rfl) ?_
                cases hf
                exact W.lret hx hb hr (fun t ht hW => ⟨⟨_, (), rfl, rfl, by rw [ht]; exact hZ1, va_K.moved hW.alike hK⟩, hS1.F ht⟩) hS1.2.2 (D_173 W_prog_15_method_181_code_32 31 rfl rfl) hlk
            · replace hf := gpos hf h11
              refine zaload hx hb (D_25 W_prog_15_method_181_code_32 11 rfl rfl) (lv_at hl 0 rfl) ?_
              refine zunrf g5.1 ?_
              refine zget (ci := 13) (C := RX13) (T := TX13) (v := .ref (ad 13 r1 (73 + 1))) (k := 73) hx hb hts inW_13 hown hK hZ1 g5.1 g5.2 rfl (by decide) k_10_13 rfl (D_180 W_prog_15_method_181_code_32 13 rfl rfl rfl) ?_
              refine lv_iload_n hx hb (D_28 W_prog_15_method_181_code_32 16 rfl rfl) rfl (lv_at hl 3 rfl) ?_
              obtain ⟨g40, hf⟩ := gif hf
              refine zlald (ci := 13) (k := 73) hx hb hK rfl hZ1 g5.1 g5.2 rfl (Nat.le_of_ble_eq_true rfl) g40.1 g40.2 (D_47 W_prog_15_method_181_code_32 17 rfl rfl) ?_
              cases hf
              exact W.lret hx hb hr (fun t ht hW => ⟨⟨_, (), rfl, rfl, by rw [ht]; exact hZ1, va_K.moved hW.alike hK⟩, hS1.F ht⟩) hS1.2.2 (D_173 W_prog_15_method_181_code_32 18 rfl rfl) hlk
          · replace hf := gneg hf h10
            exact b_M_moment_0_35 X hf hZ1 hS1 (lv_sub hl [] rfl)

