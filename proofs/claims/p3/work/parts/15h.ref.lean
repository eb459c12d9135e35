theorem k_9_164 : (Jvm.Cond.fieldLink "StaveHouseModel" (604 : Nat) "StaveHouseModel$Piece" "ratioUp" "[I") ∈ wAll := wA_9 (j := 164) rfl rfl
theorem k_9_166 : (Jvm.Cond.fieldLink "StaveHouseModel" (607 : Nat) "StaveHouseModel$Piece" "ratioDown" "[I") ∈ wAll := wA_9 (j := 166) rfl rfl
theorem k_13_175 : (Jvm.Cond.methodLink "StaveHouseModel" (715 : Nat) ({ cls := "StaveHouseModel", name := "strength", desc := "(LStaveHouseModel$Piece;JJ)I" } : Jvm.MethodName)) ∈ wAll := wA_13 (j := 175) rfl rfl
theorem k_13_177 : (Jvm.Cond.instanceMethod ({ cls := "StaveHouseModel", name := "strength", desc := "(LStaveHouseModel$Piece;JJ)I" } : Jvm.MethodName)) ∈ wAll := wA_13 (j := 177) rfl rfl
theorem ks_182 : (Jvm.Cond.selects "StaveHouseModel" ({ cls := "StaveHouseModel", name := "strength", desc := "(LStaveHouseModel$Piece;JJ)I" } : Jvm.MethodName) ({ cls := "StaveHouseModel", name := "strength", desc := "(LStaveHouseModel$Piece;JJ)I" } : Jvm.MethodName)) ∈ wAll := wA_s (j := 182) rfl rfl
theorem k_13_178 : (Jvm.Cond.code ({ cls := "StaveHouseModel", name := "strength", desc := "(LStaveHouseModel$Piece;JJ)I" } : Jvm.MethodName) prog_15_method_79_code (9 : Nat) (Option.some Jvm.ClassFile.FieldType.int)) ∈ wAll := wA_13 (j := 178) rfl rfl
theorem k_13_188 : (Jvm.Cond.methodLink "StaveHouseModel" (719 : Nat) ({ cls := "StaveHouseModel", name := "between", desc := "(LStaveHouseModel$Piece;JJJJ)I" } : Jvm.MethodName)) ∈ wAll := wA_13 (j := 188) rfl rfl
theorem k_13_190 : (Jvm.Cond.instanceMethod ({ cls := "StaveHouseModel", name := "between", desc := "(LStaveHouseModel$Piece;JJJJ)I" } : Jvm.MethodName)) ∈ wAll := wA_13 (j := 190) rfl rfl
theorem ks_183 : (Jvm.Cond.selects "StaveHouseModel" ({ cls := "StaveHouseModel", name := "between", desc := "(LStaveHouseModel$Piece;JJJJ)I" } : Jvm.MethodName) ({ cls := "StaveHouseModel", name := "between", desc := "(LStaveHouseModel$Piece;JJJJ)I" } : Jvm.MethodName)) ∈ wAll := wA_s (j := 183) rfl rfl
theorem k_13_191 : (Jvm.Cond.code ({ cls := "StaveHouseModel", name := "between", desc := "(LStaveHouseModel$Piece;JJJJ)I" } : Jvm.MethodName) prog_15_method_81_code (13 : Nat) (Option.some Jvm.ClassFile.FieldType.int)) ∈ wAll := wA_13 (j := 191) rfl rfl
theorem k_14_21 : (Jvm.Cond.methodLink "StaveHouseModel" (1205 : Nat) ({ cls := "StaveHouseModel", name := "classesAt", desc := "(LStaveHouseModel$Piece;I)V" } : Jvm.MethodName)) ∈ wAll := wA_14 (j := 21) rfl rfl
theorem k_14_23 : (Jvm.Cond.instanceMethod ({ cls := "StaveHouseModel", name := "classesAt", desc := "(LStaveHouseModel$Piece;I)V" } : Jvm.MethodName)) ∈ wAll := wA_14 (j := 23) rfl rfl
theorem ks_189 : (Jvm.Cond.selects "StaveHouseModel" ({ cls := "StaveHouseModel", name := "classesAt", desc := "(LStaveHouseModel$Piece;I)V" } : Jvm.MethodName) ({ cls := "StaveHouseModel", name := "classesAt", desc := "(LStaveHouseModel$Piece;I)V" } : Jvm.MethodName)) ∈ wAll := wA_s (j := 189) rfl rfl
theorem k_14_24 : (Jvm.Cond.code ({ cls := "StaveHouseModel", name := "classesAt", desc := "(LStaveHouseModel$Piece;I)V" } : Jvm.MethodName) prog_15_method_173_code (7 : Nat) (Option.none : Option Jvm.ClassFile.FieldType)) ∈ wAll := wA_14 (j := 24) rfl rfl
theorem k_11_102 : (Jvm.Cond.fieldLink "StaveHouseModel" (1208 : Nat) "StaveHouseModel" "chordKind" "I") ∈ wAll := wA_11 (j := 102) rfl rfl
theorem k_11_103 : (Jvm.Cond.fieldLink "StaveHouseModel" (1211 : Nat) "StaveHouseModel" "root" "I") ∈ wAll := wA_11 (j := 103) rfl rfl
theorem k_14_29 : (Jvm.Cond.methodLink "StaveHouseModel" (1214 : Nat) ({ cls := "StaveHouseModel", name := "kindOn", desc := "(I)I" } : Jvm.MethodName)) ∈ wAll := wA_14 (j := 29) rfl rfl
theorem k_14_31 : (Jvm.Cond.instanceMethod ({ cls := "StaveHouseModel", name := "kindOn", desc := "(I)I" } : Jvm.MethodName)) ∈ wAll := wA_14 (j := 31) rfl rfl
theorem ks_191 : (Jvm.Cond.selects "StaveHouseModel" ({ cls := "StaveHouseModel", name := "kindOn", desc := "(I)I" } : Jvm.MethodName) ({ cls := "StaveHouseModel", name := "kindOn", desc := "(I)I" } : Jvm.MethodName)) ∈ wAll := wA_s (j := 191) rfl rfl
theorem k_14_32 : (Jvm.Cond.code ({ cls := "StaveHouseModel", name := "kindOn", desc := "(I)I" } : Jvm.MethodName) prog_15_method_177_code (8 : Nat) (Option.some Jvm.ClassFile.FieldType.int)) ∈ wAll := wA_14 (j := 32) rfl rfl
theorem k_11_20 : (Jvm.Cond.fieldLink "StaveHouseModel" (395 : Nat) "StaveHouseModel" "hadKey" "Z") ∈ wAll := wA_11 (j := 20) rfl rfl
theorem k_10_211 : (Jvm.Cond.fieldLink "StaveHouseModel" (105 : Nat) "StaveHouseModel" "MINOR" "J") ∈ wAll := wA_10 (j := 211) rfl rfl
theorem k_14_112 : (Jvm.Cond.methodLink "StaveHouseModel" (413 : Nat) ({ cls := "StaveHouseModel", name := "isWord", desc := "(J)Z" } : Jvm.MethodName)) ∈ wAll := wA_14 (j := 112) rfl rfl
theorem k_14_114 : (Jvm.Cond.instanceMethod ({ cls := "StaveHouseModel", name := "isWord", desc := "(J)Z" } : Jvm.MethodName)) ∈ wAll := wA_14 (j := 114) rfl rfl
theorem ks_200 : (Jvm.Cond.selects "StaveHouseModel" ({ cls := "StaveHouseModel", name := "isWord", desc := "(J)Z" } : Jvm.MethodName) ({ cls := "StaveHouseModel", name := "isWord", desc := "(J)Z" } : Jvm.MethodName)) ∈ wAll := wA_s (j := 200) rfl rfl
theorem k_14_115 : (Jvm.Cond.code ({ cls := "StaveHouseModel", name := "isWord", desc := "(J)Z" } : Jvm.MethodName) prog_15_method_33_code (3 : Nat) (Option.some Jvm.ClassFile.FieldType.boolean)) ∈ wAll := wA_14 (j := 115) rfl rfl
theorem k_10_209 : (Jvm.Cond.fieldLink "StaveHouseModel" (102 : Nat) "StaveHouseModel" "MAJOR" "J") ∈ wAll := wA_10 (j := 209) rfl rfl
theorem k_15_112 : (Jvm.Cond.methodLink "StaveHouseModel" (1243 : Nat) ({ cls := "StaveHouseModel", name := "isAlone", desc := "(LStaveHouseModel$Piece;III)Z" } : Jvm.MethodName)) ∈ wAll := wA_15 (j := 112) rfl rfl
theorem k_15_113 : (Jvm.Cond.static ({ cls := "StaveHouseModel", name := "isAlone", desc := "(LStaveHouseModel$Piece;III)Z" } : Jvm.MethodName)) ∈ wAll := wA_15 (j := 113) rfl rfl
theorem k_15_114 : (Jvm.Cond.code ({ cls := "StaveHouseModel", name := "isAlone", desc := "(LStaveHouseModel$Piece;III)Z" } : Jvm.MethodName) prog_15_method_192_code (10 : Nat) (Option.some Jvm.ClassFile.FieldType.boolean)) ∈ wAll := wA_15 (j := 114) rfl rfl
theorem k_15_127 : (Jvm.Cond.methodLink "StaveHouseModel" (1246 : Nat) ({ cls := "StaveHouseModel", name := "fault", desc := "(LStaveHouseModel$Piece;IIII)V" } : Jvm.MethodName)) ∈ wAll := wA_15 (j := 127) rfl rfl
theorem k_15_128 : (Jvm.Cond.static ({ cls := "StaveHouseModel", name := "fault", desc := "(LStaveHouseModel$Piece;IIII)V" } : Jvm.MethodName)) ∈ wAll := wA_15 (j := 128) rfl rfl
theorem k_15_129 : (Jvm.Cond.code ({ cls := "StaveHouseModel", name := "fault", desc := "(LStaveHouseModel$Piece;IIII)V" } : Jvm.MethodName) prog_15_method_187_code (5 : Nat) (Option.none : Option Jvm.ClassFile.FieldType)) ∈ wAll := wA_15 (j := 129) rfl rfl
theorem k_15_136 : (Jvm.Cond.methodLink "StaveHouseModel" (1251 : Nat) ({ cls := "StaveHouseModel", name := "isParallel", desc := "(LStaveHouseModel$Piece;IIII)Z" } : Jvm.MethodName)) ∈ wAll := wA_15 (j := 136) rfl rfl
theorem k_15_137 : (Jvm.Cond.static ({ cls := "StaveHouseModel", name := "isParallel", desc := "(LStaveHouseModel$Piece;IIII)Z" } : Jvm.MethodName)) ∈ wAll := wA_15 (j := 137) rfl rfl
theorem k_15_138 : (Jvm.Cond.code ({ cls := "StaveHouseModel", name := "isParallel", desc := "(LStaveHouseModel$Piece;IIII)Z" } : Jvm.MethodName) prog_15_method_189_code (15 : Nat) (Option.some Jvm.ClassFile.FieldType.boolean)) ∈ wAll := wA_15 (j := 138) rfl rfl
theorem k_15_130 : (Jvm.Cond.methodLink "StaveHouseModel" (1248 : Nat) ({ cls := "StaveHouseModel", name := "isCrossed", desc := "(LStaveHouseModel$Piece;III)Z" } : Jvm.MethodName)) ∈ wAll := wA_15 (j := 130) rfl rfl
theorem k_15_131 : (Jvm.Cond.static ({ cls := "StaveHouseModel", name := "isCrossed", desc := "(LStaveHouseModel$Piece;III)Z" } : Jvm.MethodName)) ∈ wAll := wA_15 (j := 131) rfl rfl
theorem k_15_132 : (Jvm.Cond.code ({ cls := "StaveHouseModel", name := "isCrossed", desc := "(LStaveHouseModel$Piece;III)Z" } : Jvm.MethodName) prog_15_method_191_code (4 : Nat) (Option.some Jvm.ClassFile.FieldType.boolean)) ∈ wAll := wA_15 (j := 132) rfl rfl
theorem k_12_178 : (Jvm.Cond.methodLink "StaveHouseModel" (899 : Nat) ({ cls := "StaveHouseModel", name := "plain", desc := "(LStaveHouseModel$Piece;IIII)V" } : Jvm.MethodName)) ∈ wAll := wA_12 (j := 178) rfl rfl
theorem k_12_180 : (Jvm.Cond.instanceMethod ({ cls := "StaveHouseModel", name := "plain", desc := "(LStaveHouseModel$Piece;IIII)V" } : Jvm.MethodName)) ∈ wAll := wA_12 (j := 180) rfl rfl
theorem ks_139 : (Jvm.Cond.selects "StaveHouseModel" ({ cls := "StaveHouseModel", name := "plain", desc := "(LStaveHouseModel$Piece;IIII)V" } : Jvm.MethodName) ({ cls := "StaveHouseModel", name := "plain", desc := "(LStaveHouseModel$Piece;IIII)V" } : Jvm.MethodName)) ∈ wAll := wA_s (j := 139) rfl rfl
theorem k_12_181 : (Jvm.Cond.code ({ cls := "StaveHouseModel", name := "plain", desc := "(LStaveHouseModel$Piece;IIII)V" } : Jvm.MethodName) prog_15_method_118_code (14 : Nat) (Option.none : Option Jvm.ClassFile.FieldType)) ∈ wAll := wA_12 (j := 181) rfl rfl
theorem k_12_135 : (Jvm.Cond.methodLink "StaveHouseModel" (895 : Nat) ({ cls := "StaveHouseModel", name := "trill", desc := "(LStaveHouseModel$Piece;IIII)V" } : Jvm.MethodName)) ∈ wAll := wA_12 (j := 135) rfl rfl
theorem k_12_137 : (Jvm.Cond.instanceMethod ({ cls := "StaveHouseModel", name := "trill", desc := "(LStaveHouseModel$Piece;IIII)V" } : Jvm.MethodName)) ∈ wAll := wA_12 (j := 137) rfl rfl
theorem ks_133 : (Jvm.Cond.selects "StaveHouseModel" ({ cls := "StaveHouseModel", name := "trill", desc := "(LStaveHouseModel$Piece;IIII)V" } : Jvm.MethodName) ({ cls := "StaveHouseModel", name := "trill", desc := "(LStaveHouseModel$Piece;IIII)V" } : Jvm.MethodName)) ∈ wAll := wA_s (j := 133) rfl rfl
theorem k_12_138 : (Jvm.Cond.code ({ cls := "StaveHouseModel", name := "trill", desc := "(LStaveHouseModel$Piece;IIII)V" } : Jvm.MethodName) prog_15_method_119_code (13 : Nat) (Option.none : Option Jvm.ClassFile.FieldType)) ∈ wAll := wA_12 (j := 138) rfl rfl
theorem k_13_163 : (Jvm.Cond.methodLink "StaveHouseModel" (685 : Nat) ({ cls := "StaveHouseModel", name := "formUp", desc := "(I)J" } : Jvm.MethodName)) ∈ wAll := wA_13 (j := 163) rfl rfl
theorem k_13_164 : (Jvm.Cond.static ({ cls := "StaveHouseModel", name := "formUp", desc := "(I)J" } : Jvm.MethodName)) ∈ wAll := wA_13 (j := 164) rfl rfl
theorem k_13_165 : (Jvm.Cond.code ({ cls := "StaveHouseModel", name := "formUp", desc := "(I)J" } : Jvm.MethodName) prog_15_method_82_code (1 : Nat) (Option.some Jvm.ClassFile.FieldType.long)) ∈ wAll := wA_13 (j := 165) rfl rfl
theorem k_13_168 : (Jvm.Cond.methodLink "StaveHouseModel" (689 : Nat) ({ cls := "StaveHouseModel", name := "formDown", desc := "(II)J" } : Jvm.MethodName)) ∈ wAll := wA_13 (j := 168) rfl rfl
theorem k_13_169 : (Jvm.Cond.static ({ cls := "StaveHouseModel", name := "formDown", desc := "(II)J" } : Jvm.MethodName)) ∈ wAll := wA_13 (j := 169) rfl rfl
theorem k_13_170 : (Jvm.Cond.code ({ cls := "StaveHouseModel", name := "formDown", desc := "(II)J" } : Jvm.MethodName) prog_15_method_83_code (2 : Nat) (Option.some Jvm.ClassFile.FieldType.long)) ∈ wAll := wA_13 (j := 170) rfl rfl
theorem k_11_50 : (Jvm.Cond.fieldLink "StaveHouseModel" (693 : Nat) "StaveHouseModel" "leftUp" "J") ∈ wAll := wA_11 (j := 50) rfl rfl
theorem k_11_51 : (Jvm.Cond.fieldLink "StaveHouseModel" (696 : Nat) "StaveHouseModel" "leftDown" "J") ∈ wAll := wA_11 (j := 51) rfl rfl
theorem k_13_171 : (Jvm.Cond.methodLink "StaveHouseModel" (699 : Nat) ({ cls := "StaveHouseModel", name := "stands", desc := "(LStaveHouseModel$Piece;JJ)Z" } : Jvm.MethodName)) ∈ wAll := wA_13 (j := 171) rfl rfl
theorem k_13_173 : (Jvm.Cond.instanceMethod ({ cls := "StaveHouseModel", name := "stands", desc := "(LStaveHouseModel$Piece;JJ)Z" } : Jvm.MethodName)) ∈ wAll := wA_13 (j := 173) rfl rfl
theorem ks_181 : (Jvm.Cond.selects "StaveHouseModel" ({ cls := "StaveHouseModel", name := "stands", desc := "(LStaveHouseModel$Piece;JJ)Z" } : Jvm.MethodName) ({ cls := "StaveHouseModel", name := "stands", desc := "(LStaveHouseModel$Piece;JJ)Z" } : Jvm.MethodName)) ∈ wAll := wA_s (j := 181) rfl rfl
theorem k_13_174 : (Jvm.Cond.code ({ cls := "StaveHouseModel", name := "stands", desc := "(LStaveHouseModel$Piece;JJ)Z" } : Jvm.MethodName) prog_15_method_85_code (12 : Nat) (Option.some Jvm.ClassFile.FieldType.boolean)) ∈ wAll := wA_13 (j := 174) rfl rfl
theorem k_11_54 : (Jvm.Cond.fieldLink "StaveHouseModel" (703 : Nat) "StaveHouseModel" "bestForm" "I") ∈ wAll := wA_11 (j := 54) rfl rfl
theorem k_11_55 : (Jvm.Cond.fieldLink "StaveHouseModel" (706 : Nat) "StaveHouseModel" "bestPoints" "I") ∈ wAll := wA_11 (j := 55) rfl rfl
theorem k_12_125 : (Jvm.Cond.methodLink "StaveHouseModel" (912 : Nat) ({ cls := "StaveHouseModel", name := "gather", desc := "(LStaveHouseModel$Piece;)I" } : Jvm.MethodName)) ∈ wAll := wA_12 (j := 125) rfl rfl
theorem k_12_127 : (Jvm.Cond.instanceMethod ({ cls := "StaveHouseModel", name := "gather", desc := "(LStaveHouseModel$Piece;)I" } : Jvm.MethodName)) ∈ wAll := wA_12 (j := 127) rfl rfl
theorem ks_132 : (Jvm.Cond.selects "StaveHouseModel" ({ cls := "StaveHouseModel", name := "gather", desc := "(LStaveHouseModel$Piece;)I" } : Jvm.MethodName) ({ cls := "StaveHouseModel", name := "gather", desc := "(LStaveHouseModel$Piece;)I" } : Jvm.MethodName)) ∈ wAll := wA_s (j := 132) rfl rfl
theorem k_12_128 : (Jvm.Cond.code ({ cls := "StaveHouseModel", name := "gather", desc := "(LStaveHouseModel$Piece;)I" } : Jvm.MethodName) prog_15_method_116_code (9 : Nat) (Option.some Jvm.ClassFile.FieldType.int)) ∈ wAll := wA_12 (j := 128) rfl rfl
theorem k_11_104 : (Jvm.Cond.fieldLink "StaveHouseModel" (293 : Nat) "StaveHouseModel" "weights" "[I") ∈ wAll := wA_11 (j := 104) rfl rfl
theorem k_13_151 : (Jvm.Cond.methodLink "StaveHouseModel" (735 : Nat) ({ cls := "StaveHouseModel", name := "note", desc := "(LStaveHouseModel$Piece;IIIII)V" } : Jvm.MethodName)) ∈ wAll := wA_13 (j := 151) rfl rfl
theorem k_13_153 : (Jvm.Cond.instanceMethod ({ cls := "StaveHouseModel", name := "note", desc := "(LStaveHouseModel$Piece;IIIII)V" } : Jvm.MethodName)) ∈ wAll := wA_13 (j := 153) rfl rfl
theorem ks_178 : (Jvm.Cond.selects "StaveHouseModel" ({ cls := "StaveHouseModel", name := "note", desc := "(LStaveHouseModel$Piece;IIIII)V" } : Jvm.MethodName) ({ cls := "StaveHouseModel", name := "note", desc := "(LStaveHouseModel$Piece;IIIII)V" } : Jvm.MethodName)) ∈ wAll := wA_s (j := 178) rfl rfl
theorem k_13_154 : (Jvm.Cond.code ({ cls := "StaveHouseModel", name := "note", desc := "(LStaveHouseModel$Piece;IIIII)V" } : Jvm.MethodName) prog_15_method_89_code (8 : Nat) (Option.none : Option Jvm.ClassFile.FieldType)) ∈ wAll := wA_13 (j := 154) rfl rfl
theorem k_13_159 : (Jvm.Cond.methodLink "StaveHouseModel" (742 : Nat) ({ cls := "StaveHouseModel", name := "choose", desc := "(LStaveHouseModel$Piece;Z)Z" } : Jvm.MethodName)) ∈ wAll := wA_13 (j := 159) rfl rfl
theorem k_13_161 : (Jvm.Cond.instanceMethod ({ cls := "StaveHouseModel", name := "choose", desc := "(LStaveHouseModel$Piece;Z)Z" } : Jvm.MethodName)) ∈ wAll := wA_13 (j := 161) rfl rfl
theorem ks_180 : (Jvm.Cond.selects "StaveHouseModel" ({ cls := "StaveHouseModel", name := "choose", desc := "(LStaveHouseModel$Piece;Z)Z" } : Jvm.MethodName) ({ cls := "StaveHouseModel", name := "choose", desc := "(LStaveHouseModel$Piece;Z)Z" } : Jvm.MethodName)) ∈ wAll := wA_s (j := 180) rfl rfl
theorem k_13_162 : (Jvm.Cond.code ({ cls := "StaveHouseModel", name := "choose", desc := "(LStaveHouseModel$Piece;Z)Z" } : Jvm.MethodName) prog_15_method_84_code (13 : Nat) (Option.some Jvm.ClassFile.FieldType.boolean)) ∈ wAll := wA_13 (j := 162) rfl rfl
theorem k_13_147 : (Jvm.Cond.methodLink "StaveHouseModel" (731 : Nat) ({ cls := "StaveHouseModel", name := "part", desc := "(LStaveHouseModel$Piece;IIIJJZ)V" } : Jvm.MethodName)) ∈ wAll := wA_13 (j := 147) rfl rfl
theorem k_13_149 : (Jvm.Cond.instanceMethod ({ cls := "StaveHouseModel", name := "part", desc := "(LStaveHouseModel$Piece;IIIJJZ)V" } : Jvm.MethodName)) ∈ wAll := wA_13 (j := 149) rfl rfl
theorem ks_177 : (Jvm.Cond.selects "StaveHouseModel" ({ cls := "StaveHouseModel", name := "part", desc := "(LStaveHouseModel$Piece;IIIJJZ)V" } : Jvm.MethodName) ({ cls := "StaveHouseModel", name := "part", desc := "(LStaveHouseModel$Piece;IIIJJZ)V" } : Jvm.MethodName)) ∈ wAll := wA_s (j := 177) rfl rfl
theorem k_13_150 : (Jvm.Cond.code ({ cls := "StaveHouseModel", name := "part", desc := "(LStaveHouseModel$Piece;IIIJJZ)V" } : Jvm.MethodName) prog_15_method_88_code (21 : Nat) (Option.none : Option Jvm.ClassFile.FieldType)) ∈ wAll := wA_13 (j := 150) rfl rfl
theorem d_15_85_0 : decode prog_15_method_85_code 0 = .ok (.aload_n 0, 1) := by decide +kernel
theorem d_15_85_1 : decode prog_15_method_85_code 1 = .ok (.aload_n 0, 1) := by decide +kernel
theorem d_15_85_2 : decode prog_15_method_85_code 2 = .ok (.getfield 709, 3) := by decide +kernel
theorem d_15_85_5 : decode prog_15_method_85_code 5 = .ok (.aload_n 0, 1) := by decide +kernel
theorem d_15_85_6 : decode prog_15_method_85_code 6 = .ok (.getfield 712, 3) := by decide +kernel
theorem d_15_85_9 : decode prog_15_method_85_code 9 = .ok (.lload_n 2, 1) := by decide +kernel
theorem d_15_85_10 : decode prog_15_method_85_code 10 = .ok (.lload 4, 2) := by decide +kernel
theorem d_15_85_12 : decode prog_15_method_85_code 12 = .ok (.invokevirtual 533, 3) := by decide +kernel
theorem d_15_85_15 : decode prog_15_method_85_code 15 = .ok (.aload_n 0, 1) := by decide +kernel
theorem d_15_85_16 : decode prog_15_method_85_code 16 = .ok (.getfield 9, 3) := by decide +kernel
theorem d_15_85_19 : decode prog_15_method_85_code 19 = .ok (.lstore 6, 2) := by decide +kernel
theorem d_15_85_21 : decode prog_15_method_85_code 21 = .ok (.aload_n 0, 1) := by decide +kernel
theorem d_15_85_22 : decode prog_15_method_85_code 22 = .ok (.getfield 13, 3) := by decide +kernel
theorem d_15_85_25 : decode prog_15_method_85_code 25 = .ok (.lstore 8, 2) := by decide +kernel
theorem d_15_85_27 : decode prog_15_method_85_code 27 = .ok (.aload_n 0, 1) := by decide +kernel
theorem d_15_85_28 : decode prog_15_method_85_code 28 = .ok (.aload_n 1, 1) := by decide +kernel
theorem d_15_85_29 : decode prog_15_method_85_code 29 = .ok (.aload_n 0, 1) := by decide +kernel
theorem d_15_85_30 : decode prog_15_method_85_code 30 = .ok (.getfield 709, 3) := by decide +kernel
theorem d_15_85_33 : decode prog_15_method_85_code 33 = .ok (.aload_n 0, 1) := by decide +kernel
theorem d_15_85_34 : decode prog_15_method_85_code 34 = .ok (.getfield 712, 3) := by decide +kernel
theorem d_15_85_37 : decode prog_15_method_85_code 37 = .ok (.invokevirtual 715, 3) := by decide +kernel
theorem d_15_85_40 : decode prog_15_method_85_code 40 = .ok (.istore 10, 2) := by decide +kernel
theorem d_15_85_42 : decode prog_15_method_85_code 42 = .ok (.aload_n 0, 1) := by decide +kernel
theorem d_15_85_43 : decode prog_15_method_85_code 43 = .ok (.aload_n 1, 1) := by decide +kernel
theorem d_15_85_44 : decode prog_15_method_85_code 44 = .ok (.lload 6, 2) := by decide +kernel
theorem d_15_85_46 : decode prog_15_method_85_code 46 = .ok (.lload 8, 2) := by decide +kernel
theorem d_15_85_48 : decode prog_15_method_85_code 48 = .ok (.invokevirtual 715, 3) := by decide +kernel
theorem d_15_85_51 : decode prog_15_method_85_code 51 = .ok (.istore 11, 2) := by decide +kernel
theorem d_15_85_53 : decode prog_15_method_85_code 53 = .ok (.aload_n 0, 1) := by decide +kernel
theorem d_15_85_54 : decode prog_15_method_85_code 54 = .ok (.aload_n 1, 1) := by decide +kernel
theorem d_15_85_55 : decode prog_15_method_85_code 55 = .ok (.aload_n 0, 1) := by decide +kernel
theorem d_15_85_56 : decode prog_15_method_85_code 56 = .ok (.getfield 709, 3) := by decide +kernel
theorem d_15_85_59 : decode prog_15_method_85_code 59 = .ok (.aload_n 0, 1) := by decide +kernel
theorem d_15_85_60 : decode prog_15_method_85_code 60 = .ok (.getfield 712, 3) := by decide +kernel
theorem d_15_85_63 : decode prog_15_method_85_code 63 = .ok (.lload 6, 2) := by decide +kernel
theorem d_15_85_65 : decode prog_15_method_85_code 65 = .ok (.lload 8, 2) := by decide +kernel
theorem d_15_85_67 : decode prog_15_method_85_code 67 = .ok (.invokevirtual 719, 3) := by decide +kernel
theorem d_15_85_70 : decode prog_15_method_85_code 70 = .ok (.iload 10, 2) := by decide +kernel
theorem d_15_85_72 : decode prog_15_method_85_code 72 = .ok (.iload 11, 2) := by decide +kernel
theorem d_15_85_74 : decode prog_15_method_85_code 74 = .ok (.if_icmp .le 8, 3) := by decide +kernel
theorem d_15_85_82 : decode prog_15_method_85_code 82 = .ok (.iload 11, 2) := by decide +kernel
theorem d_15_85_77 : decode prog_15_method_85_code 77 = .ok (.iload 10, 2) := by decide +kernel
theorem d_15_85_79 : decode prog_15_method_85_code 79 = .ok (.goto 5, 3) := by decide +kernel
theorem d_15_85_84 : decode prog_15_method_85_code 84 = .ok (.if_icmp .gt 7, 3) := by decide +kernel
theorem d_15_85_91 : decode prog_15_method_85_code 91 = .ok (.iconst 0, 1) := by decide +kernel
theorem d_15_85_87 : decode prog_15_method_85_code 87 = .ok (.iconst 1, 1) := by decide +kernel
theorem d_15_85_88 : decode prog_15_method_85_code 88 = .ok (.goto 4, 3) := by decide +kernel
theorem d_15_85_92 : decode prog_15_method_85_code 92 = .ok (.ireturn, 1) := by decide +kernel
theorem d_15_175_0 : decode prog_15_method_175_code 0 = .ok (.aload_n 0, 1) := by decide +kernel
theorem d_15_175_1 : decode prog_15_method_175_code 1 = .ok (.aload_n 1, 1) := by decide +kernel
theorem d_15_175_2 : decode prog_15_method_175_code 2 = .ok (.iload_n 2, 1) := by decide +kernel
theorem d_15_175_3 : decode prog_15_method_175_code 3 = .ok (.invokevirtual 1205, 3) := by decide +kernel
theorem d_15_175_6 : decode prog_15_method_175_code 6 = .ok (.aload_n 0, 1) := by decide +kernel
theorem d_15_175_7 : decode prog_15_method_175_code 7 = .ok (.iconst (-1), 1) := by decide +kernel
theorem d_15_175_8 : decode prog_15_method_175_code 8 = .ok (.putfield 1208, 3) := by decide +kernel
theorem d_15_175_11 : decode prog_15_method_175_code 11 = .ok (.iconst 0, 1) := by decide +kernel
theorem d_15_175_12 : decode prog_15_method_175_code 12 = .ok (.istore_n 3, 1) := by decide +kernel
theorem d_15_175_13 : decode prog_15_method_175_code 13 = .ok (.iload_n 3, 1) := by decide +kernel
theorem d_15_175_14 : decode prog_15_method_175_code 14 = .ok (.aload_n 0, 1) := by decide +kernel
theorem d_15_175_15 : decode prog_15_method_175_code 15 = .ok (.getfield 1191, 3) := by decide +kernel
theorem d_15_175_18 : decode prog_15_method_175_code 18 = .ok (.if_icmp .ge 30, 3) := by decide +kernel
theorem d_15_175_21 : decode prog_15_method_175_code 21 = .ok (.aload_n 0, 1) := by decide +kernel
theorem d_15_175_22 : decode prog_15_method_175_code 22 = .ok (.getfield 1208, 3) := by decide +kernel
theorem d_15_175_25 : decode prog_15_method_175_code 25 = .ok (.ifCond .ge 23, 3) := by decide +kernel
theorem d_15_175_28 : decode prog_15_method_175_code 28 = .ok (.aload_n 0, 1) := by decide +kernel
theorem d_15_175_29 : decode prog_15_method_175_code 29 = .ok (.iload_n 3, 1) := by decide +kernel
theorem d_15_175_30 : decode prog_15_method_175_code 30 = .ok (.putfield 1211, 3) := by decide +kernel
theorem d_15_175_33 : decode prog_15_method_175_code 33 = .ok (.aload_n 0, 1) := by decide +kernel
theorem d_15_175_34 : decode prog_15_method_175_code 34 = .ok (.aload_n 0, 1) := by decide +kernel
theorem d_15_175_35 : decode prog_15_method_175_code 35 = .ok (.iload_n 3, 1) := by decide +kernel
theorem d_15_175_36 : decode prog_15_method_175_code 36 = .ok (.invokevirtual 1214, 3) := by decide +kernel
theorem d_15_175_39 : decode prog_15_method_175_code 39 = .ok (.putfield 1208, 3) := by decide +kernel
theorem d_15_175_42 : decode prog_15_method_175_code 42 = .ok (.iinc 3 1, 3) := by decide +kernel
theorem d_15_175_45 : decode prog_15_method_175_code 45 = .ok (.goto (-32), 3) := by decide +kernel
theorem d_15_175_48 : decode prog_15_method_175_code 48 = .ok (.return_, 1) := by decide +kernel
theorem d_15_42_0 : decode prog_15_method_42_code 0 = .ok (.aload_n 0, 1) := by decide +kernel
theorem d_15_42_1 : decode prog_15_method_42_code 1 = .ok (.getfield 395, 3) := by decide +kernel
theorem d_15_42_4 : decode prog_15_method_42_code 4 = .ok (.ifCond .eq 7, 3) := by decide +kernel
theorem d_15_42_7 : decode prog_15_method_42_code 7 = .ok (.aload_n 0, 1) := by decide +kernel
theorem d_15_42_8 : decode prog_15_method_42_code 8 = .ok (.invokevirtual 383, 3) := by decide +kernel
theorem d_15_42_11 : decode prog_15_method_42_code 11 = .ok (.aload_n 0, 1) := by decide +kernel
theorem d_15_42_12 : decode prog_15_method_42_code 12 = .ok (.iconst 1, 1) := by decide +kernel
theorem d_15_42_13 : decode prog_15_method_42_code 13 = .ok (.putfield 395, 3) := by decide +kernel
theorem d_15_42_16 : decode prog_15_method_42_code 16 = .ok (.aload_n 0, 1) := by decide +kernel
theorem d_15_42_17 : decode prog_15_method_42_code 17 = .ok (.dup, 1) := by decide +kernel
theorem d_15_42_18 : decode prog_15_method_42_code 18 = .ok (.getfield 362, 3) := by decide +kernel
theorem d_15_42_21 : decode prog_15_method_42_code 21 = .ok (.iconst 1, 1) := by decide +kernel
theorem d_15_42_22 : decode prog_15_method_42_code 22 = .ok (.iadd, 1) := by decide +kernel
theorem d_15_42_23 : decode prog_15_method_42_code 23 = .ok (.putfield 362, 3) := by decide +kernel
theorem d_15_42_26 : decode prog_15_method_42_code 26 = .ok (.aload_n 0, 1) := by decide +kernel
theorem d_15_42_27 : decode prog_15_method_42_code 27 = .ok (.invokevirtual 376, 3) := by decide +kernel
theorem d_15_42_30 : decode prog_15_method_42_code 30 = .ok (.ifCond .ne 4, 3) := by decide +kernel
theorem d_15_42_34 : decode prog_15_method_42_code 34 = .ok (.aload_n 0, 1) := by decide +kernel
theorem d_15_42_35 : decode prog_15_method_42_code 35 = .ok (.bipush 45, 2) := by decide +kernel
theorem d_15_42_37 : decode prog_15_method_42_code 37 = .ok (.invokevirtual 380, 3) := by decide +kernel
theorem d_15_42_40 : decode prog_15_method_42_code 40 = .ok (.istore_n 1, 1) := by decide +kernel
theorem d_15_42_41 : decode prog_15_method_42_code 41 = .ok (.iload_n 1, 1) := by decide +kernel
theorem d_15_42_42 : decode prog_15_method_42_code 42 = .ok (.ifCond .eq 13, 3) := by decide +kernel
theorem d_15_42_45 : decode prog_15_method_42_code 45 = .ok (.aload_n 0, 1) := by decide +kernel
theorem d_15_42_46 : decode prog_15_method_42_code 46 = .ok (.dup, 1) := by decide +kernel
theorem d_15_42_47 : decode prog_15_method_42_code 47 = .ok (.getfield 362, 3) := by decide +kernel
theorem d_15_42_50 : decode prog_15_method_42_code 50 = .ok (.iconst 1, 1) := by decide +kernel
theorem d_15_42_51 : decode prog_15_method_42_code 51 = .ok (.iadd, 1) := by decide +kernel
theorem d_15_42_52 : decode prog_15_method_42_code 52 = .ok (.putfield 362, 3) := by decide +kernel
theorem d_15_42_33 : decode prog_15_method_42_code 33 = .ok (.return_, 1) := by decide +kernel
theorem d_15_42_55 : decode prog_15_method_42_code 55 = .ok (.aload_n 0, 1) := by decide +kernel
theorem d_15_42_56 : decode prog_15_method_42_code 56 = .ok (.iconst 0, 1) := by decide +kernel
theorem d_15_42_57 : decode prog_15_method_42_code 57 = .ok (.bipush 7, 2) := by decide +kernel
theorem d_15_42_59 : decode prog_15_method_42_code 59 = .ok (.iconst 0, 1) := by decide +kernel
theorem d_15_42_60 : decode prog_15_method_42_code 60 = .ok (.invokevirtual 426, 3) := by decide +kernel
theorem d_15_42_63 : decode prog_15_method_42_code 63 = .ok (.istore_n 2, 1) := by decide +kernel
theorem d_15_42_64 : decode prog_15_method_42_code 64 = .ok (.aload_n 0, 1) := by decide +kernel
theorem d_15_42_65 : decode prog_15_method_42_code 65 = .ok (.getfield 44, 3) := by decide +kernel
theorem d_15_42_68 : decode prog_15_method_42_code 68 = .ok (.iload_n 1, 1) := by decide +kernel
theorem d_15_42_69 : decode prog_15_method_42_code 69 = .ok (.ifCond .eq 8, 3) := by decide +kernel
theorem d_15_42_77 : decode prog_15_method_42_code 77 = .ok (.iload_n 2, 1) := by decide +kernel
theorem d_15_42_72 : decode prog_15_method_42_code 72 = .ok (.iload_n 2, 1) := by decide +kernel
theorem d_15_42_73 : decode prog_15_method_42_code 73 = .ok (.ineg, 1) := by decide +kernel
theorem d_15_42_74 : decode prog_15_method_42_code 74 = .ok (.goto 4, 3) := by decide +kernel
theorem d_15_42_78 : decode prog_15_method_42_code 78 = .ok (.putfield 310, 3) := by decide +kernel
theorem d_15_42_81 : decode prog_15_method_42_code 81 = .ok (.aload_n 0, 1) := by decide +kernel
theorem d_15_42_82 : decode prog_15_method_42_code 82 = .ok (.invokevirtual 376, 3) := by decide +kernel
theorem d_15_42_85 : decode prog_15_method_42_code 85 = .ok (.ifCond .ne 4, 3) := by decide +kernel
theorem d_15_42_89 : decode prog_15_method_42_code 89 = .ok (.aload_n 0, 1) := by decide +kernel
theorem d_15_42_90 : decode prog_15_method_42_code 90 = .ok (.getfield 44, 3) := by decide +kernel
theorem d_15_42_93 : decode prog_15_method_42_code 93 = .ok (.aload_n 0, 1) := by decide +kernel
theorem d_15_42_94 : decode prog_15_method_42_code 94 = .ok (.getstatic 105, 3) := by decide +kernel
theorem d_15_42_97 : decode prog_15_method_42_code 97 = .ok (.invokevirtual 413, 3) := by decide +kernel
theorem d_15_42_100 : decode prog_15_method_42_code 100 = .ok (.putfield 313, 3) := by decide +kernel
theorem d_15_42_103 : decode prog_15_method_42_code 103 = .ok (.aload_n 0, 1) := by decide +kernel
theorem d_15_42_104 : decode prog_15_method_42_code 104 = .ok (.getstatic 102, 3) := by decide +kernel
theorem d_15_42_107 : decode prog_15_method_42_code 107 = .ok (.invokevirtual 413, 3) := by decide +kernel
theorem d_15_42_110 : decode prog_15_method_42_code 110 = .ok (.ifCond .ne 13, 3) := by decide +kernel
theorem d_15_42_113 : decode prog_15_method_42_code 113 = .ok (.aload_n 0, 1) := by decide +kernel
theorem d_15_42_114 : decode prog_15_method_42_code 114 = .ok (.getstatic 105, 3) := by decide +kernel
theorem d_15_42_117 : decode prog_15_method_42_code 117 = .ok (.invokevirtual 413, 3) := by decide +kernel
theorem d_15_42_120 : decode prog_15_method_42_code 120 = .ok (.ifCond .eq 16, 3) := by decide +kernel
theorem d_15_42_136 : decode prog_15_method_42_code 136 = .ok (.aload_n 0, 1) := by decide +kernel
theorem d_15_42_137 : decode prog_15_method_42_code 137 = .ok (.invokevirtual 383, 3) := by decide +kernel
theorem d_15_42_88 : decode prog_15_method_42_code 88 = .ok (.return_, 1) := by decide +kernel
theorem d_15_42_123 : decode prog_15_method_42_code 123 = .ok (.aload_n 0, 1) := by decide +kernel
theorem d_15_42_124 : decode prog_15_method_42_code 124 = .ok (.dup, 1) := by decide +kernel
theorem d_15_42_125 : decode prog_15_method_42_code 125 = .ok (.getfield 362, 3) := by decide +kernel
theorem d_15_42_128 : decode prog_15_method_42_code 128 = .ok (.iconst 1, 1) := by decide +kernel
theorem d_15_42_129 : decode prog_15_method_42_code 129 = .ok (.iadd, 1) := by decide +kernel
theorem d_15_42_130 : decode prog_15_method_42_code 130 = .ok (.putfield 362, 3) := by decide +kernel
theorem d_15_42_133 : decode prog_15_method_42_code 133 = .ok (.goto 7, 3) := by decide +kernel
theorem d_15_42_140 : decode prog_15_method_42_code 140 = .ok (.return_, 1) := by decide +kernel
theorem d_15_186_0 : decode prog_15_method_186_code 0 = .ok (.aload_n 1, 1) := by decide +kernel
theorem d_15_186_1 : decode prog_15_method_186_code 1 = .ok (.iconst 0, 1) := by decide +kernel
theorem d_15_186_2 : decode prog_15_method_186_code 2 = .ok (.putfield 1240, 3) := by decide +kernel
theorem d_15_186_5 : decode prog_15_method_186_code 5 = .ok (.iconst 1, 1) := by decide +kernel
theorem d_15_186_6 : decode prog_15_method_186_code 6 = .ok (.istore_n 2, 1) := by decide +kernel
theorem d_15_186_7 : decode prog_15_method_186_code 7 = .ok (.iload_n 2, 1) := by decide +kernel
theorem d_15_186_8 : decode prog_15_method_186_code 8 = .ok (.aload_n 1, 1) := by decide +kernel
theorem d_15_186_9 : decode prog_15_method_186_code 9 = .ok (.getfield 1175, 3) := by decide +kernel
theorem d_15_186_12 : decode prog_15_method_186_code 12 = .ok (.if_icmp .ge 133, 3) := by decide +kernel
theorem d_15_186_145 : decode prog_15_method_186_code 145 = .ok (.return_, 1) := by decide +kernel
theorem d_15_186_15 : decode prog_15_method_186_code 15 = .ok (.iconst 1, 1) := by decide +kernel
theorem d_15_186_16 : decode prog_15_method_186_code 16 = .ok (.istore_n 3, 1) := by decide +kernel
theorem d_15_186_17 : decode prog_15_method_186_code 17 = .ok (.iload_n 3, 1) := by decide +kernel
theorem d_15_186_18 : decode prog_15_method_186_code 18 = .ok (.bipush 7, 2) := by decide +kernel
theorem d_15_186_20 : decode prog_15_method_186_code 20 = .ok (.if_icmp .ge 119, 3) := by decide +kernel
theorem d_15_186_139 : decode prog_15_method_186_code 139 = .ok (.iinc 2 1, 3) := by decide +kernel
theorem d_15_186_142 : decode prog_15_method_186_code 142 = .ok (.goto (-135), 3) := by decide +kernel
theorem d_15_186_23 : decode prog_15_method_186_code 23 = .ok (.iconst 0, 1) := by decide +kernel
theorem d_15_186_24 : decode prog_15_method_186_code 24 = .ok (.istore 4, 2) := by decide +kernel
theorem d_15_186_26 : decode prog_15_method_186_code 26 = .ok (.iload 4, 2) := by decide +kernel
theorem d_15_186_28 : decode prog_15_method_186_code 28 = .ok (.aload_n 1, 1) := by decide +kernel
theorem d_15_186_29 : decode prog_15_method_186_code 29 = .ok (.getfield 304, 3) := by decide +kernel
theorem d_15_186_32 : decode prog_15_method_186_code 32 = .ok (.if_icmp .ge 101, 3) := by decide +kernel
theorem d_15_186_133 : decode prog_15_method_186_code 133 = .ok (.iinc 3 1, 3) := by decide +kernel
theorem d_15_186_136 : decode prog_15_method_186_code 136 = .ok (.goto (-119), 3) := by decide +kernel
theorem d_15_186_35 : decode prog_15_method_186_code 35 = .ok (.iload_n 3, 1) := by decide +kernel
theorem d_15_186_36 : decode prog_15_method_186_code 36 = .ok (.iconst 4, 1) := by decide +kernel
theorem d_15_186_37 : decode prog_15_method_186_code 37 = .ok (.if_icmp .le 26, 3) := by decide +kernel
theorem d_15_186_63 : decode prog_15_method_186_code 63 = .ok (.iload 4, 2) := by decide +kernel
theorem d_15_186_65 : decode prog_15_method_186_code 65 = .ok (.iconst 1, 1) := by decide +kernel
theorem d_15_186_66 : decode prog_15_method_186_code 66 = .ok (.iadd, 1) := by decide +kernel
theorem d_15_186_67 : decode prog_15_method_186_code 67 = .ok (.istore 5, 2) := by decide +kernel
theorem d_15_186_40 : decode prog_15_method_186_code 40 = .ok (.aload_n 1, 1) := by decide +kernel
theorem d_15_186_41 : decode prog_15_method_186_code 41 = .ok (.iload_n 2, 1) := by decide +kernel
theorem d_15_186_42 : decode prog_15_method_186_code 42 = .ok (.iload_n 3, 1) := by decide +kernel
theorem d_15_186_43 : decode prog_15_method_186_code 43 = .ok (.iload 4, 2) := by decide +kernel
theorem d_15_186_45 : decode prog_15_method_186_code 45 = .ok (.invokestatic 1243, 3) := by decide +kernel
theorem d_15_186_48 : decode prog_15_method_186_code 48 = .ok (.ifCond .eq 79, 3) := by decide +kernel
theorem d_15_186_51 : decode prog_15_method_186_code 51 = .ok (.aload_n 1, 1) := by decide +kernel
theorem d_15_186_52 : decode prog_15_method_186_code 52 = .ok (.iload_n 2, 1) := by decide +kernel
theorem d_15_186_53 : decode prog_15_method_186_code 53 = .ok (.iload_n 3, 1) := by decide +kernel
theorem d_15_186_54 : decode prog_15_method_186_code 54 = .ok (.iload 4, 2) := by decide +kernel
theorem d_15_186_56 : decode prog_15_method_186_code 56 = .ok (.iconst (-1), 1) := by decide +kernel
theorem d_15_186_57 : decode prog_15_method_186_code 57 = .ok (.invokestatic 1246, 3) := by decide +kernel
theorem d_15_186_60 : decode prog_15_method_186_code 60 = .ok (.goto 67, 3) := by decide +kernel
theorem d_15_186_127 : decode prog_15_method_186_code 127 = .ok (.iinc 4 1, 3) := by decide +kernel
theorem d_15_186_130 : decode prog_15_method_186_code 130 = .ok (.goto (-104), 3) := by decide +kernel
theorem d_15_186_69 : decode prog_15_method_186_code 69 = .ok (.iload 5, 2) := by decide +kernel
theorem d_15_186_71 : decode prog_15_method_186_code 71 = .ok (.aload_n 1, 1) := by decide +kernel
theorem d_15_186_72 : decode prog_15_method_186_code 72 = .ok (.getfield 304, 3) := by decide +kernel
theorem d_15_186_75 : decode prog_15_method_186_code 75 = .ok (.if_icmp .ge 52, 3) := by decide +kernel
theorem d_15_186_78 : decode prog_15_method_186_code 78 = .ok (.iload_n 3, 1) := by decide +kernel
theorem d_15_186_79 : decode prog_15_method_186_code 79 = .ok (.iconst 4, 1) := by decide +kernel
theorem d_15_186_80 : decode prog_15_method_186_code 80 = .ok (.if_icmp .ne 18, 3) := by decide +kernel
theorem d_15_186_98 : decode prog_15_method_186_code 98 = .ok (.aload_n 1, 1) := by decide +kernel
theorem d_15_186_99 : decode prog_15_method_186_code 99 = .ok (.iload_n 2, 1) := by decide +kernel
theorem d_15_186_100 : decode prog_15_method_186_code 100 = .ok (.iload_n 3, 1) := by decide +kernel
theorem d_15_186_101 : decode prog_15_method_186_code 101 = .ok (.iload 4, 2) := by decide +kernel
theorem d_15_186_103 : decode prog_15_method_186_code 103 = .ok (.iload 5, 2) := by decide +kernel
theorem d_15_186_105 : decode prog_15_method_186_code 105 = .ok (.invokestatic 1251, 3) := by decide +kernel
theorem d_15_186_108 : decode prog_15_method_186_code 108 = .ok (.ifCond .eq 13, 3) := by decide +kernel
theorem d_15_186_83 : decode prog_15_method_186_code 83 = .ok (.aload_n 1, 1) := by decide +kernel
theorem d_15_186_84 : decode prog_15_method_186_code 84 = .ok (.iload_n 2, 1) := by decide +kernel
theorem d_15_186_85 : decode prog_15_method_186_code 85 = .ok (.iload 4, 2) := by decide +kernel
theorem d_15_186_87 : decode prog_15_method_186_code 87 = .ok (.iload 5, 2) := by decide +kernel
theorem d_15_186_89 : decode prog_15_method_186_code 89 = .ok (.invokestatic 1248, 3) := by decide +kernel
theorem d_15_186_92 : decode prog_15_method_186_code 92 = .ok (.ifCond .eq 29, 3) := by decide +kernel
theorem d_15_186_95 : decode prog_15_method_186_code 95 = .ok (.goto 16, 3) := by decide +kernel
theorem d_15_186_111 : decode prog_15_method_186_code 111 = .ok (.aload_n 1, 1) := by decide +kernel
theorem d_15_186_112 : decode prog_15_method_186_code 112 = .ok (.iload_n 2, 1) := by decide +kernel
theorem d_15_186_113 : decode prog_15_method_186_code 113 = .ok (.iload_n 3, 1) := by decide +kernel
theorem d_15_186_114 : decode prog_15_method_186_code 114 = .ok (.iload 4, 2) := by decide +kernel
theorem d_15_186_116 : decode prog_15_method_186_code 116 = .ok (.iload 5, 2) := by decide +kernel
theorem d_15_186_118 : decode prog_15_method_186_code 118 = .ok (.invokestatic 1246, 3) := by decide +kernel
theorem d_15_186_121 : decode prog_15_method_186_code 121 = .ok (.iinc 5 1, 3) := by decide +kernel
theorem d_15_186_124 : decode prog_15_method_186_code 124 = .ok (.goto (-55), 3) := by decide +kernel
theorem d_15_116_0 : decode prog_15_method_116_code 0 = .ok (.aload_n 0, 1) := by decide +kernel
theorem d_15_116_1 : decode prog_15_method_116_code 1 = .ok (.iconst 0, 1) := by decide +kernel
theorem d_15_116_2 : decode prog_15_method_116_code 2 = .ok (.putfield 889, 3) := by decide +kernel
theorem d_15_116_5 : decode prog_15_method_116_code 5 = .ok (.iconst 0, 1) := by decide +kernel
theorem d_15_116_6 : decode prog_15_method_116_code 6 = .ok (.istore_n 2, 1) := by decide +kernel
theorem d_15_116_7 : decode prog_15_method_116_code 7 = .ok (.iload_n 2, 1) := by decide +kernel
theorem d_15_116_8 : decode prog_15_method_116_code 8 = .ok (.aload_n 1, 1) := by decide +kernel
theorem d_15_116_9 : decode prog_15_method_116_code 9 = .ok (.getfield 304, 3) := by decide +kernel
theorem d_15_116_12 : decode prog_15_method_116_code 12 = .ok (.if_icmp .ge 183, 3) := by decide +kernel
theorem d_15_116_195 : decode prog_15_method_116_code 195 = .ok (.aload_n 0, 1) := by decide +kernel
theorem d_15_116_196 : decode prog_15_method_116_code 196 = .ok (.getfield 889, 3) := by decide +kernel
theorem d_15_116_199 : decode prog_15_method_116_code 199 = .ok (.ireturn, 1) := by decide +kernel
theorem d_15_116_15 : decode prog_15_method_116_code 15 = .ok (.iconst 0, 1) := by decide +kernel
theorem d_15_116_16 : decode prog_15_method_116_code 16 = .ok (.istore_n 3, 1) := by decide +kernel
theorem d_15_116_17 : decode prog_15_method_116_code 17 = .ok (.iload_n 3, 1) := by decide +kernel
theorem d_15_116_18 : decode prog_15_method_116_code 18 = .ok (.aload_n 1, 1) := by decide +kernel
theorem d_15_116_19 : decode prog_15_method_116_code 19 = .ok (.getfield 515, 3) := by decide +kernel
theorem d_15_116_22 : decode prog_15_method_116_code 22 = .ok (.iload_n 2, 1) := by decide +kernel
theorem d_15_116_23 : decode prog_15_method_116_code 23 = .ok (.iaload, 1) := by decide +kernel
theorem d_15_116_24 : decode prog_15_method_116_code 24 = .ok (.if_icmp .ge 165, 3) := by decide +kernel
theorem d_15_116_189 : decode prog_15_method_116_code 189 = .ok (.iinc 2 1, 3) := by decide +kernel
theorem d_15_116_192 : decode prog_15_method_116_code 192 = .ok (.goto (-185), 3) := by decide +kernel
theorem d_15_116_27 : decode prog_15_method_116_code 27 = .ok (.sipush 1000, 3) := by decide +kernel
theorem d_15_116_30 : decode prog_15_method_116_code 30 = .ok (.iload_n 2, 1) := by decide +kernel
theorem d_15_116_31 : decode prog_15_method_116_code 31 = .ok (.imul, 1) := by decide +kernel
theorem d_15_116_32 : decode prog_15_method_116_code 32 = .ok (.iload_n 3, 1) := by decide +kernel
theorem d_15_116_33 : decode prog_15_method_116_code 33 = .ok (.iadd, 1) := by decide +kernel
theorem d_15_116_34 : decode prog_15_method_116_code 34 = .ok (.istore 4, 2) := by decide +kernel
theorem d_15_116_36 : decode prog_15_method_116_code 36 = .ok (.iconst 0, 1) := by decide +kernel
theorem d_15_116_37 : decode prog_15_method_116_code 37 = .ok (.istore 5, 2) := by decide +kernel
theorem d_15_116_39 : decode prog_15_method_116_code 39 = .ok (.iload 5, 2) := by decide +kernel
theorem d_15_116_41 : decode prog_15_method_116_code 41 = .ok (.aload_n 1, 1) := by decide +kernel
theorem d_15_116_42 : decode prog_15_method_116_code 42 = .ok (.getfield 598, 3) := by decide +kernel
theorem d_15_116_45 : decode prog_15_method_116_code 45 = .ok (.iload 4, 2) := by decide +kernel
theorem d_15_116_47 : decode prog_15_method_116_code 47 = .ok (.iaload, 1) := by decide +kernel
theorem d_15_116_48 : decode prog_15_method_116_code 48 = .ok (.if_icmp .ge 135, 3) := by decide +kernel
theorem d_15_116_183 : decode prog_15_method_116_code 183 = .ok (.iinc 3 1, 3) := by decide +kernel
theorem d_15_116_186 : decode prog_15_method_116_code 186 = .ok (.goto (-169), 3) := by decide +kernel
theorem d_15_116_51 : decode prog_15_method_116_code 51 = .ok (.aload_n 1, 1) := by decide +kernel
theorem d_15_116_52 : decode prog_15_method_116_code 52 = .ok (.getfield 615, 3) := by decide +kernel
theorem d_15_116_55 : decode prog_15_method_116_code 55 = .ok (.bipush 6, 2) := by decide +kernel
theorem d_15_116_57 : decode prog_15_method_116_code 57 = .ok (.iload 4, 2) := by decide +kernel
theorem d_15_116_59 : decode prog_15_method_116_code 59 = .ok (.imul, 1) := by decide +kernel
theorem d_15_116_60 : decode prog_15_method_116_code 60 = .ok (.iload 5, 2) := by decide +kernel
theorem d_15_116_62 : decode prog_15_method_116_code 62 = .ok (.iadd, 1) := by decide +kernel
theorem d_15_116_63 : decode prog_15_method_116_code 63 = .ok (.iaload, 1) := by decide +kernel
theorem d_15_116_64 : decode prog_15_method_116_code 64 = .ok (.istore 6, 2) := by decide +kernel
theorem d_15_116_66 : decode prog_15_method_116_code 66 = .ok (.aload_n 1, 1) := by decide +kernel
theorem d_15_116_67 : decode prog_15_method_116_code 67 = .ok (.getfield 618, 3) := by decide +kernel
theorem d_15_116_70 : decode prog_15_method_116_code 70 = .ok (.bipush 6, 2) := by decide +kernel
theorem d_15_116_72 : decode prog_15_method_116_code 72 = .ok (.iload 4, 2) := by decide +kernel
theorem d_15_116_74 : decode prog_15_method_116_code 74 = .ok (.imul, 1) := by decide +kernel
theorem d_15_116_75 : decode prog_15_method_116_code 75 = .ok (.iload 5, 2) := by decide +kernel
theorem d_15_116_77 : decode prog_15_method_116_code 77 = .ok (.iadd, 1) := by decide +kernel
theorem d_15_116_78 : decode prog_15_method_116_code 78 = .ok (.iaload, 1) := by decide +kernel
theorem d_15_116_79 : decode prog_15_method_116_code 79 = .ok (.istore 7, 2) := by decide +kernel
theorem d_15_116_81 : decode prog_15_method_116_code 81 = .ok (.iload_n 3, 1) := by decide +kernel
theorem d_15_116_82 : decode prog_15_method_116_code 82 = .ok (.ifCond .le 21, 3) := by decide +kernel
theorem d_15_116_85 : decode prog_15_method_116_code 85 = .ok (.aload_n 1, 1) := by decide +kernel
theorem d_15_116_86 : decode prog_15_method_116_code 86 = .ok (.iload 4, 2) := by decide +kernel
theorem d_15_116_88 : decode prog_15_method_116_code 88 = .ok (.iconst 1, 1) := by decide +kernel
theorem d_15_116_89 : decode prog_15_method_116_code 89 = .ok (.isub, 1) := by decide +kernel
theorem d_15_116_90 : decode prog_15_method_116_code 90 = .ok (.iload 6, 2) := by decide +kernel
theorem d_15_116_92 : decode prog_15_method_116_code 92 = .ok (.iload 7, 2) := by decide +kernel
theorem d_15_116_94 : decode prog_15_method_116_code 94 = .ok (.invokestatic 892, 3) := by decide +kernel
theorem d_15_116_97 : decode prog_15_method_116_code 97 = .ok (.ifCond .eq 6, 3) := by decide +kernel
theorem d_15_116_100 : decode prog_15_method_116_code 100 = .ok (.goto 77, 3) := by decide +kernel
theorem d_15_116_177 : decode prog_15_method_116_code 177 = .ok (.iinc 5 1, 3) := by decide +kernel
theorem d_15_116_180 : decode prog_15_method_116_code 180 = .ok (.goto (-141), 3) := by decide +kernel
theorem d_15_116_103 : decode prog_15_method_116_code 103 = .ok (.aload_n 1, 1) := by decide +kernel
theorem d_15_116_104 : decode prog_15_method_116_code 104 = .ok (.getfield 584, 3) := by decide +kernel
theorem d_15_116_107 : decode prog_15_method_116_code 107 = .ok (.iload 4, 2) := by decide +kernel
theorem d_15_116_109 : decode prog_15_method_116_code 109 = .ok (.iaload, 1) := by decide +kernel
theorem d_15_116_110 : decode prog_15_method_116_code 110 = .ok (.bipush 64, 2) := by decide +kernel
theorem d_15_116_112 : decode prog_15_method_116_code 112 = .ok (.iand, 1) := by decide +kernel
theorem d_15_116_113 : decode prog_15_method_116_code 113 = .ok (.ifCond .le 31, 3) := by decide +kernel
theorem d_15_116_116 : decode prog_15_method_116_code 116 = .ok (.aload_n 1, 1) := by decide +kernel
theorem d_15_116_117 : decode prog_15_method_116_code 117 = .ok (.getfield 598, 3) := by decide +kernel
theorem d_15_116_120 : decode prog_15_method_116_code 120 = .ok (.iload 4, 2) := by decide +kernel
theorem d_15_116_122 : decode prog_15_method_116_code 122 = .ok (.iaload, 1) := by decide +kernel
theorem d_15_116_123 : decode prog_15_method_116_code 123 = .ok (.iconst 1, 1) := by decide +kernel
theorem d_15_116_124 : decode prog_15_method_116_code 124 = .ok (.if_icmp .ne 20, 3) := by decide +kernel
theorem d_15_116_127 : decode prog_15_method_116_code 127 = .ok (.aload_n 1, 1) := by decide +kernel
theorem d_15_116_128 : decode prog_15_method_116_code 128 = .ok (.iload 4, 2) := by decide +kernel
theorem d_15_116_130 : decode prog_15_method_116_code 130 = .ok (.iload 6, 2) := by decide +kernel
theorem d_15_116_132 : decode prog_15_method_116_code 132 = .ok (.iload 7, 2) := by decide +kernel
theorem d_15_116_134 : decode prog_15_method_116_code 134 = .ok (.invokestatic 892, 3) := by decide +kernel
theorem d_15_116_137 : decode prog_15_method_116_code 137 = .ok (.ifCond .ne 7, 3) := by decide +kernel
theorem d_15_116_140 : decode prog_15_method_116_code 140 = .ok (.iconst 1, 1) := by decide +kernel
theorem d_15_116_141 : decode prog_15_method_116_code 141 = .ok (.goto 4, 3) := by decide +kernel
theorem d_15_116_145 : decode prog_15_method_116_code 145 = .ok (.istore 8, 2) := by decide +kernel
theorem d_15_116_147 : decode prog_15_method_116_code 147 = .ok (.iload 8, 2) := by decide +kernel
theorem d_15_116_149 : decode prog_15_method_116_code 149 = .ok (.ifCond .eq 17, 3) := by decide +kernel
theorem d_15_116_166 : decode prog_15_method_116_code 166 = .ok (.aload_n 0, 1) := by decide +kernel
theorem d_15_116_167 : decode prog_15_method_116_code 167 = .ok (.aload_n 1, 1) := by decide +kernel
theorem d_15_116_168 : decode prog_15_method_116_code 168 = .ok (.iload_n 2, 1) := by decide +kernel
theorem d_15_116_169 : decode prog_15_method_116_code 169 = .ok (.iload_n 3, 1) := by decide +kernel
theorem d_15_116_170 : decode prog_15_method_116_code 170 = .ok (.iload 6, 2) := by decide +kernel
theorem d_15_116_172 : decode prog_15_method_116_code 172 = .ok (.iload 7, 2) := by decide +kernel
theorem d_15_116_174 : decode prog_15_method_116_code 174 = .ok (.invokevirtual 899, 3) := by decide +kernel
theorem d_15_116_152 : decode prog_15_method_116_code 152 = .ok (.aload_n 0, 1) := by decide +kernel
theorem d_15_116_153 : decode prog_15_method_116_code 153 = .ok (.aload_n 1, 1) := by decide +kernel
theorem d_15_116_154 : decode prog_15_method_116_code 154 = .ok (.iload_n 2, 1) := by decide +kernel
theorem d_15_116_155 : decode prog_15_method_116_code 155 = .ok (.iload_n 3, 1) := by decide +kernel
theorem d_15_116_156 : decode prog_15_method_116_code 156 = .ok (.iload 6, 2) := by decide +kernel
theorem d_15_116_158 : decode prog_15_method_116_code 158 = .ok (.iload 7, 2) := by decide +kernel
theorem d_15_116_160 : decode prog_15_method_116_code 160 = .ok (.invokevirtual 895, 3) := by decide +kernel
theorem d_15_116_163 : decode prog_15_method_116_code 163 = .ok (.goto 14, 3) := by decide +kernel
theorem d_15_116_144 : decode prog_15_method_116_code 144 = .ok (.iconst 0, 1) := by decide +kernel
theorem d_15_84_0 : decode prog_15_method_84_code 0 = .ok (.lconst 0, 1) := by decide +kernel
theorem d_15_84_1 : decode prog_15_method_84_code 1 = .ok (.lstore_n 3, 1) := by decide +kernel
theorem d_15_84_2 : decode prog_15_method_84_code 2 = .ok (.lconst 1, 1) := by decide +kernel
theorem d_15_84_3 : decode prog_15_method_84_code 3 = .ok (.lstore 5, 2) := by decide +kernel
theorem d_15_84_5 : decode prog_15_method_84_code 5 = .ok (.iconst 0, 1) := by decide +kernel
theorem d_15_84_6 : decode prog_15_method_84_code 6 = .ok (.istore 7, 2) := by decide +kernel
theorem d_15_84_8 : decode prog_15_method_84_code 8 = .ok (.iload 7, 2) := by decide +kernel
theorem d_15_84_10 : decode prog_15_method_84_code 10 = .ok (.bipush 8, 2) := by decide +kernel
theorem d_15_84_12 : decode prog_15_method_84_code 12 = .ok (.if_icmp .ge 112, 3) := by decide +kernel
theorem d_15_84_124 : decode prog_15_method_84_code 124 = .ok (.lload_n 3, 1) := by decide +kernel
theorem d_15_84_125 : decode prog_15_method_84_code 125 = .ok (.lconst 0, 1) := by decide +kernel
theorem d_15_84_126 : decode prog_15_method_84_code 126 = .ok (.lcmp, 1) := by decide +kernel
theorem d_15_84_127 : decode prog_15_method_84_code 127 = .ok (.ifCond .le 7, 3) := by decide +kernel
theorem d_15_84_134 : decode prog_15_method_84_code 134 = .ok (.iconst 0, 1) := by decide +kernel
theorem d_15_84_130 : decode prog_15_method_84_code 130 = .ok (.iconst 1, 1) := by decide +kernel
theorem d_15_84_131 : decode prog_15_method_84_code 131 = .ok (.goto 4, 3) := by decide +kernel
theorem d_15_84_15 : decode prog_15_method_84_code 15 = .ok (.iconst 0, 1) := by decide +kernel
theorem d_15_84_16 : decode prog_15_method_84_code 16 = .ok (.istore 8, 2) := by decide +kernel
theorem d_15_84_18 : decode prog_15_method_84_code 18 = .ok (.iload 8, 2) := by decide +kernel
theorem d_15_84_20 : decode prog_15_method_84_code 20 = .ok (.iconst 3, 1) := by decide +kernel
theorem d_15_84_21 : decode prog_15_method_84_code 21 = .ok (.if_icmp .ge 97, 3) := by decide +kernel
theorem d_15_84_118 : decode prog_15_method_84_code 118 = .ok (.iinc 7 1, 3) := by decide +kernel
theorem d_15_84_121 : decode prog_15_method_84_code 121 = .ok (.goto (-113), 3) := by decide +kernel
theorem d_15_84_24 : decode prog_15_method_84_code 24 = .ok (.iload 8, 2) := by decide +kernel
theorem d_15_84_26 : decode prog_15_method_84_code 26 = .ok (.invokestatic 685, 3) := by decide +kernel
theorem d_15_84_29 : decode prog_15_method_84_code 29 = .ok (.lstore 9, 2) := by decide +kernel
theorem d_15_84_31 : decode prog_15_method_84_code 31 = .ok (.iload 7, 2) := by decide +kernel
theorem d_15_84_33 : decode prog_15_method_84_code 33 = .ok (.iload 8, 2) := by decide +kernel
theorem d_15_84_35 : decode prog_15_method_84_code 35 = .ok (.invokestatic 689, 3) := by decide +kernel
theorem d_15_84_38 : decode prog_15_method_84_code 38 = .ok (.lstore 11, 2) := by decide +kernel
theorem d_15_84_40 : decode prog_15_method_84_code 40 = .ok (.lload 9, 2) := by decide +kernel
theorem d_15_84_42 : decode prog_15_method_84_code 42 = .ok (.lload 11, 2) := by decide +kernel
theorem d_15_84_44 : decode prog_15_method_84_code 44 = .ok (.aload_n 0, 1) := by decide +kernel
theorem d_15_84_45 : decode prog_15_method_84_code 45 = .ok (.getfield 693, 3) := by decide +kernel
theorem d_15_84_48 : decode prog_15_method_84_code 48 = .ok (.aload_n 0, 1) := by decide +kernel
theorem d_15_84_49 : decode prog_15_method_84_code 49 = .ok (.getfield 696, 3) := by decide +kernel
theorem d_15_84_52 : decode prog_15_method_84_code 52 = .ok (.invokestatic 537, 3) := by decide +kernel
theorem d_15_84_55 : decode prog_15_method_84_code 55 = .ok (.ifCond .gt 57, 3) := by decide +kernel
theorem d_15_84_58 : decode prog_15_method_84_code 58 = .ok (.lload 9, 2) := by decide +kernel
theorem d_15_84_60 : decode prog_15_method_84_code 60 = .ok (.lload 11, 2) := by decide +kernel
theorem d_15_84_62 : decode prog_15_method_84_code 62 = .ok (.lload_n 3, 1) := by decide +kernel
theorem d_15_84_63 : decode prog_15_method_84_code 63 = .ok (.lload 5, 2) := by decide +kernel
theorem d_15_84_65 : decode prog_15_method_84_code 65 = .ok (.invokestatic 537, 3) := by decide +kernel
theorem d_15_84_68 : decode prog_15_method_84_code 68 = .ok (.ifCond .gt 6, 3) := by decide +kernel
theorem d_15_84_74 : decode prog_15_method_84_code 74 = .ok (.iload_n 2, 1) := by decide +kernel
theorem d_15_84_75 : decode prog_15_method_84_code 75 = .ok (.ifCond .eq 18, 3) := by decide +kernel
theorem d_15_84_78 : decode prog_15_method_84_code 78 = .ok (.aload_n 0, 1) := by decide +kernel
theorem d_15_84_79 : decode prog_15_method_84_code 79 = .ok (.aload_n 1, 1) := by decide +kernel
theorem d_15_84_80 : decode prog_15_method_84_code 80 = .ok (.lload 9, 2) := by decide +kernel
theorem d_15_84_82 : decode prog_15_method_84_code 82 = .ok (.lload 11, 2) := by decide +kernel
theorem d_15_84_84 : decode prog_15_method_84_code 84 = .ok (.invokevirtual 699, 3) := by decide +kernel
theorem d_15_84_87 : decode prog_15_method_84_code 87 = .ok (.ifCond .ne 6, 3) := by decide +kernel
theorem d_15_84_90 : decode prog_15_method_84_code 90 = .ok (.goto 22, 3) := by decide +kernel
theorem d_15_84_71 : decode prog_15_method_84_code 71 = .ok (.goto 41, 3) := by decide +kernel
theorem d_15_84_112 : decode prog_15_method_84_code 112 = .ok (.iinc 8 1, 3) := by decide +kernel
theorem d_15_84_115 : decode prog_15_method_84_code 115 = .ok (.goto (-97), 3) := by decide +kernel
theorem d_15_84_93 : decode prog_15_method_84_code 93 = .ok (.lload 9, 2) := by decide +kernel
theorem d_15_84_95 : decode prog_15_method_84_code 95 = .ok (.lstore_n 3, 1) := by decide +kernel
theorem d_15_84_96 : decode prog_15_method_84_code 96 = .ok (.lload 11, 2) := by decide +kernel
theorem d_15_84_98 : decode prog_15_method_84_code 98 = .ok (.lstore 5, 2) := by decide +kernel
theorem d_15_84_100 : decode prog_15_method_84_code 100 = .ok (.aload_n 0, 1) := by decide +kernel
theorem d_15_84_101 : decode prog_15_method_84_code 101 = .ok (.iload 7, 2) := by decide +kernel
theorem d_15_84_103 : decode prog_15_method_84_code 103 = .ok (.putfield 703, 3) := by decide +kernel
theorem d_15_84_106 : decode prog_15_method_84_code 106 = .ok (.aload_n 0, 1) := by decide +kernel
theorem d_15_84_107 : decode prog_15_method_84_code 107 = .ok (.iload 8, 2) := by decide +kernel
theorem d_15_84_109 : decode prog_15_method_84_code 109 = .ok (.putfield 706, 3) := by decide +kernel
theorem d_15_84_135 : decode prog_15_method_84_code 135 = .ok (.ireturn, 1) := by decide +kernel
theorem d_15_195_0 : decode prog_15_method_195_code 0 = .ok (.aload_n 0, 1) := by decide +kernel
theorem d_15_195_1 : decode prog_15_method_195_code 1 = .ok (.aload_n 1, 1) := by decide +kernel
theorem d_15_195_2 : decode prog_15_method_195_code 2 = .ok (.invokevirtual 912, 3) := by decide +kernel
theorem d_15_195_5 : decode prog_15_method_195_code 5 = .ok (.istore_n 2, 1) := by decide +kernel
theorem d_15_195_6 : decode prog_15_method_195_code 6 = .ok (.iload_n 2, 1) := by decide +kernel
theorem d_15_195_7 : decode prog_15_method_195_code 7 = .ok (.ifCond .eq 10, 3) := by decide +kernel
theorem d_15_195_10 : decode prog_15_method_195_code 10 = .ok (.iload_n 2, 1) := by decide +kernel
theorem d_15_195_11 : decode prog_15_method_195_code 11 = .ok (.sipush 2000, 3) := by decide +kernel
theorem d_15_195_14 : decode prog_15_method_195_code 14 = .ok (.if_icmp .le 5, 3) := by decide +kernel
theorem d_15_195_19 : decode prog_15_method_195_code 19 = .ok (.ldc2_w 847, 3) := by decide +kernel
theorem d_15_195_22 : decode prog_15_method_195_code 22 = .ok (.lstore_n 3, 1) := by decide +kernel
theorem d_15_195_23 : decode prog_15_method_195_code 23 = .ok (.iconst (-1), 1) := by decide +kernel
theorem d_15_195_24 : decode prog_15_method_195_code 24 = .ok (.istore 5, 2) := by decide +kernel
theorem d_15_195_26 : decode prog_15_method_195_code 26 = .ok (.iconst 0, 1) := by decide +kernel
theorem d_15_195_27 : decode prog_15_method_195_code 27 = .ok (.istore 6, 2) := by decide +kernel
theorem d_15_195_17 : decode prog_15_method_195_code 17 = .ok (.iconst (-1), 1) := by decide +kernel
theorem d_15_195_18 : decode prog_15_method_195_code 18 = .ok (.ireturn, 1) := by decide +kernel
theorem d_15_195_29 : decode prog_15_method_195_code 29 = .ok (.iload 6, 2) := by decide +kernel
theorem d_15_195_31 : decode prog_15_method_195_code 31 = .ok (.bipush 24, 2) := by decide +kernel
theorem d_15_195_33 : decode prog_15_method_195_code 33 = .ok (.if_icmp .ge 99, 3) := by decide +kernel
theorem d_15_195_132 : decode prog_15_method_195_code 132 = .ok (.iload 5, 2) := by decide +kernel
theorem d_15_195_134 : decode prog_15_method_195_code 134 = .ok (.ireturn, 1) := by decide +kernel
theorem d_15_195_36 : decode prog_15_method_195_code 36 = .ok (.lconst 0, 1) := by decide +kernel
theorem d_15_195_37 : decode prog_15_method_195_code 37 = .ok (.lstore 7, 2) := by decide +kernel
theorem d_15_195_39 : decode prog_15_method_195_code 39 = .ok (.iconst 0, 1) := by decide +kernel
theorem d_15_195_40 : decode prog_15_method_195_code 40 = .ok (.istore 9, 2) := by decide +kernel
theorem d_15_195_42 : decode prog_15_method_195_code 42 = .ok (.iload 9, 2) := by decide +kernel
theorem d_15_195_44 : decode prog_15_method_195_code 44 = .ok (.iload_n 2, 1) := by decide +kernel
theorem d_15_195_45 : decode prog_15_method_195_code 45 = .ok (.if_icmp .ge 64, 3) := by decide +kernel
theorem d_15_195_109 : decode prog_15_method_195_code 109 = .ok (.lload 7, 2) := by decide +kernel
theorem d_15_195_111 : decode prog_15_method_195_code 111 = .ok (.lload_n 3, 1) := by decide +kernel
theorem d_15_195_112 : decode prog_15_method_195_code 112 = .ok (.lcmp, 1) := by decide +kernel
theorem d_15_195_113 : decode prog_15_method_195_code 113 = .ok (.ifCond .gt 6, 3) := by decide +kernel
theorem d_15_195_119 : decode prog_15_method_195_code 119 = .ok (.lload 7, 2) := by decide +kernel
theorem d_15_195_121 : decode prog_15_method_195_code 121 = .ok (.lstore_n 3, 1) := by decide +kernel
theorem d_15_195_122 : decode prog_15_method_195_code 122 = .ok (.iload 6, 2) := by decide +kernel
theorem d_15_195_124 : decode prog_15_method_195_code 124 = .ok (.istore 5, 2) := by decide +kernel
theorem d_15_195_116 : decode prog_15_method_195_code 116 = .ok (.goto 10, 3) := by decide +kernel
theorem d_15_195_48 : decode prog_15_method_195_code 48 = .ok (.lload 7, 2) := by decide +kernel
theorem d_15_195_50 : decode prog_15_method_195_code 50 = .ok (.aload_n 0, 1) := by decide +kernel
theorem d_15_195_51 : decode prog_15_method_195_code 51 = .ok (.getfield 208, 3) := by decide +kernel
theorem d_15_195_54 : decode prog_15_method_195_code 54 = .ok (.iload 9, 2) := by decide +kernel
theorem d_15_195_56 : decode prog_15_method_195_code 56 = .ok (.iaload, 1) := by decide +kernel
theorem d_15_195_57 : decode prog_15_method_195_code 57 = .ok (.aload_n 0, 1) := by decide +kernel
theorem d_15_195_58 : decode prog_15_method_195_code 58 = .ok (.getfield 205, 3) := by decide +kernel
theorem d_15_195_61 : decode prog_15_method_195_code 61 = .ok (.iload 9, 2) := by decide +kernel
theorem d_15_195_63 : decode prog_15_method_195_code 63 = .ok (.iaload, 1) := by decide +kernel
theorem d_15_195_64 : decode prog_15_method_195_code 64 = .ok (.isub, 1) := by decide +kernel
theorem d_15_195_65 : decode prog_15_method_195_code 65 = .ok (.i2l, 1) := by decide +kernel
theorem d_15_195_66 : decode prog_15_method_195_code 66 = .ok (.aload_n 0, 1) := by decide +kernel
theorem d_15_195_67 : decode prog_15_method_195_code 67 = .ok (.getfield 293, 3) := by decide +kernel
theorem d_15_195_70 : decode prog_15_method_195_code 70 = .ok (.iload 6, 2) := by decide +kernel
theorem d_15_195_72 : decode prog_15_method_195_code 72 = .ok (.bipush 12, 2) := by decide +kernel
theorem d_15_195_74 : decode prog_15_method_195_code 74 = .ok (.idiv, 1) := by decide +kernel
theorem d_15_195_75 : decode prog_15_method_195_code 75 = .ok (.bipush 12, 2) := by decide +kernel
theorem d_15_195_77 : decode prog_15_method_195_code 77 = .ok (.imul, 1) := by decide +kernel
theorem d_15_195_78 : decode prog_15_method_195_code 78 = .ok (.aload_n 0, 1) := by decide +kernel
theorem d_15_195_79 : decode prog_15_method_195_code 79 = .ok (.getfield 211, 3) := by decide +kernel
theorem d_15_195_82 : decode prog_15_method_195_code 82 = .ok (.iload 9, 2) := by decide +kernel
theorem d_15_195_84 : decode prog_15_method_195_code 84 = .ok (.iaload, 1) := by decide +kernel
theorem d_15_195_85 : decode prog_15_method_195_code 85 = .ok (.iload 6, 2) := by decide +kernel
theorem d_15_195_87 : decode prog_15_method_195_code 87 = .ok (.bipush 12, 2) := by decide +kernel
theorem d_15_195_89 : decode prog_15_method_195_code 89 = .ok (.irem, 1) := by decide +kernel
theorem d_15_195_90 : decode prog_15_method_195_code 90 = .ok (.isub, 1) := by decide +kernel
theorem d_15_195_91 : decode prog_15_method_195_code 91 = .ok (.bipush 12, 2) := by decide +kernel
theorem d_15_195_93 : decode prog_15_method_195_code 93 = .ok (.invokestatic 307, 3) := by decide +kernel
theorem d_15_195_96 : decode prog_15_method_195_code 96 = .ok (.iadd, 1) := by decide +kernel
theorem d_15_195_97 : decode prog_15_method_195_code 97 = .ok (.iaload, 1) := by decide +kernel
theorem d_15_195_98 : decode prog_15_method_195_code 98 = .ok (.i2l, 1) := by decide +kernel
theorem d_15_195_99 : decode prog_15_method_195_code 99 = .ok (.lmul, 1) := by decide +kernel
theorem d_15_195_100 : decode prog_15_method_195_code 100 = .ok (.ladd, 1) := by decide +kernel
theorem d_15_195_101 : decode prog_15_method_195_code 101 = .ok (.lstore 7, 2) := by decide +kernel
theorem d_15_195_103 : decode prog_15_method_195_code 103 = .ok (.iinc 9 1, 3) := by decide +kernel
theorem d_15_195_106 : decode prog_15_method_195_code 106 = .ok (.goto (-64), 3) := by decide +kernel
theorem d_15_195_126 : decode prog_15_method_195_code 126 = .ok (.iinc 6 1, 3) := by decide +kernel
theorem d_15_195_129 : decode prog_15_method_195_code 129 = .ok (.goto (-100), 3) := by decide +kernel
theorem d_15_88_0 : decode prog_15_method_88_code 0 = .ok (.sipush 1000, 3) := by decide +kernel
theorem d_15_88_3 : decode prog_15_method_88_code 3 = .ok (.iload_n 2, 1) := by decide +kernel
theorem d_15_88_4 : decode prog_15_method_88_code 4 = .ok (.imul, 1) := by decide +kernel
theorem d_15_88_5 : decode prog_15_method_88_code 5 = .ok (.iload_n 3, 1) := by decide +kernel
theorem d_15_88_6 : decode prog_15_method_88_code 6 = .ok (.iadd, 1) := by decide +kernel
theorem d_15_88_7 : decode prog_15_method_88_code 7 = .ok (.istore 10, 2) := by decide +kernel
theorem d_15_88_9 : decode prog_15_method_88_code 9 = .ok (.iload_n 3, 1) := by decide +kernel
theorem d_15_88_10 : decode prog_15_method_88_code 10 = .ok (.ifCond .lt 13, 3) := by decide +kernel
theorem d_15_88_13 : decode prog_15_method_88_code 13 = .ok (.aload_n 1, 1) := by decide +kernel
theorem d_15_88_14 : decode prog_15_method_88_code 14 = .ok (.getfield 598, 3) := by decide +kernel
theorem d_15_88_17 : decode prog_15_method_88_code 17 = .ok (.iload 10, 2) := by decide +kernel
theorem d_15_88_19 : decode prog_15_method_88_code 19 = .ok (.iaload, 1) := by decide +kernel
theorem d_15_88_20 : decode prog_15_method_88_code 20 = .ok (.ifCond .ne 7, 3) := by decide +kernel
theorem d_15_88_27 : decode prog_15_method_88_code 27 = .ok (.iconst 0, 1) := by decide +kernel
theorem d_15_88_23 : decode prog_15_method_88_code 23 = .ok (.iconst 1, 1) := by decide +kernel
theorem d_15_88_24 : decode prog_15_method_88_code 24 = .ok (.goto 4, 3) := by decide +kernel
theorem d_15_88_28 : decode prog_15_method_88_code 28 = .ok (.istore 11, 2) := by decide +kernel
theorem d_15_88_30 : decode prog_15_method_88_code 30 = .ok (.iload_n 3, 1) := by decide +kernel
theorem d_15_88_31 : decode prog_15_method_88_code 31 = .ok (.ifCond .lt 17, 3) := by decide +kernel
theorem d_15_88_34 : decode prog_15_method_88_code 34 = .ok (.aload_n 1, 1) := by decide +kernel
theorem d_15_88_35 : decode prog_15_method_88_code 35 = .ok (.getfield 601, 3) := by decide +kernel
theorem d_15_88_38 : decode prog_15_method_88_code 38 = .ok (.iload 10, 2) := by decide +kernel
theorem d_15_88_40 : decode prog_15_method_88_code 40 = .ok (.iaload, 1) := by decide +kernel
theorem d_15_88_41 : decode prog_15_method_88_code 41 = .ok (.ifCond .le 7, 3) := by decide +kernel
theorem d_15_88_44 : decode prog_15_method_88_code 44 = .ok (.iconst 1, 1) := by decide +kernel
theorem d_15_88_45 : decode prog_15_method_88_code 45 = .ok (.goto 4, 3) := by decide +kernel
theorem d_15_88_49 : decode prog_15_method_88_code 49 = .ok (.istore 12, 2) := by decide +kernel
theorem d_15_88_51 : decode prog_15_method_88_code 51 = .ok (.iload 12, 2) := by decide +kernel
theorem d_15_88_53 : decode prog_15_method_88_code 53 = .ok (.ifCond .eq 14, 3) := by decide +kernel
theorem d_15_88_67 : decode prog_15_method_88_code 67 = .ok (.lconst 1, 1) := by decide +kernel
theorem d_15_88_56 : decode prog_15_method_88_code 56 = .ok (.aload_n 1, 1) := by decide +kernel
theorem d_15_88_57 : decode prog_15_method_88_code 57 = .ok (.getfield 604, 3) := by decide +kernel
theorem d_15_88_60 : decode prog_15_method_88_code 60 = .ok (.iload 10, 2) := by decide +kernel
theorem d_15_88_62 : decode prog_15_method_88_code 62 = .ok (.iaload, 1) := by decide +kernel
theorem d_15_88_63 : decode prog_15_method_88_code 63 = .ok (.i2l, 1) := by decide +kernel
theorem d_15_88_64 : decode prog_15_method_88_code 64 = .ok (.goto 4, 3) := by decide +kernel
theorem d_15_88_68 : decode prog_15_method_88_code 68 = .ok (.lstore 13, 2) := by decide +kernel
theorem d_15_88_70 : decode prog_15_method_88_code 70 = .ok (.iload 12, 2) := by decide +kernel
theorem d_15_88_72 : decode prog_15_method_88_code 72 = .ok (.ifCond .eq 14, 3) := by decide +kernel
theorem d_15_88_86 : decode prog_15_method_88_code 86 = .ok (.lconst 1, 1) := by decide +kernel
theorem d_15_88_75 : decode prog_15_method_88_code 75 = .ok (.aload_n 1, 1) := by decide +kernel
theorem d_15_88_76 : decode prog_15_method_88_code 76 = .ok (.getfield 607, 3) := by decide +kernel
theorem d_15_88_79 : decode prog_15_method_88_code 79 = .ok (.iload 10, 2) := by decide +kernel
theorem d_15_88_81 : decode prog_15_method_88_code 81 = .ok (.iaload, 1) := by decide +kernel
theorem d_15_88_82 : decode prog_15_method_88_code 82 = .ok (.i2l, 1) := by decide +kernel
theorem d_15_88_83 : decode prog_15_method_88_code 83 = .ok (.goto 4, 3) := by decide +kernel
theorem d_15_88_87 : decode prog_15_method_88_code 87 = .ok (.lstore 15, 2) := by decide +kernel
theorem d_15_88_89 : decode prog_15_method_88_code 89 = .ok (.iload 11, 2) := by decide +kernel
theorem d_15_88_91 : decode prog_15_method_88_code 91 = .ok (.ifCond .eq 55, 3) := by decide +kernel
theorem d_15_88_94 : decode prog_15_method_88_code 94 = .ok (.iload 12, 2) := by decide +kernel
theorem d_15_88_96 : decode prog_15_method_88_code 96 = .ok (.ifCond .ne 50, 3) := by decide +kernel
theorem d_15_88_99 : decode prog_15_method_88_code 99 = .ok (.iload 9, 2) := by decide +kernel
theorem d_15_88_101 : decode prog_15_method_88_code 101 = .ok (.ifCond .eq 45, 3) := by decide +kernel
theorem d_15_88_104 : decode prog_15_method_88_code 104 = .ok (.aload_n 0, 1) := by decide +kernel
theorem d_15_88_105 : decode prog_15_method_88_code 105 = .ok (.getfield 709, 3) := by decide +kernel
theorem d_15_88_108 : decode prog_15_method_88_code 108 = .ok (.lconst 0, 1) := by decide +kernel
theorem d_15_88_109 : decode prog_15_method_88_code 109 = .ok (.lcmp, 1) := by decide +kernel
theorem d_15_88_110 : decode prog_15_method_88_code 110 = .ok (.ifCond .ne 36, 3) := by decide +kernel
theorem d_15_88_113 : decode prog_15_method_88_code 113 = .ok (.lload 5, 2) := by decide +kernel
theorem d_15_88_115 : decode prog_15_method_88_code 115 = .ok (.lload 7, 2) := by decide +kernel
theorem d_15_88_117 : decode prog_15_method_88_code 117 = .ok (.aload_n 1, 1) := by decide +kernel
theorem d_15_88_118 : decode prog_15_method_88_code 118 = .ok (.getfield 404, 3) := by decide +kernel
theorem d_15_88_121 : decode prog_15_method_88_code 121 = .ok (.i2l, 1) := by decide +kernel
theorem d_15_88_122 : decode prog_15_method_88_code 122 = .ok (.aload_n 1, 1) := by decide +kernel
theorem d_15_88_123 : decode prog_15_method_88_code 123 = .ok (.getfield 407, 3) := by decide +kernel
theorem d_15_88_126 : decode prog_15_method_88_code 126 = .ok (.i2l, 1) := by decide +kernel
theorem d_15_88_127 : decode prog_15_method_88_code 127 = .ok (.invokestatic 537, 3) := by decide +kernel
theorem d_15_88_130 : decode prog_15_method_88_code 130 = .ok (.ifCond .ne 16, 3) := by decide +kernel
theorem d_15_88_133 : decode prog_15_method_88_code 133 = .ok (.aload_n 0, 1) := by decide +kernel
theorem d_15_88_134 : decode prog_15_method_88_code 134 = .ok (.aload_n 1, 1) := by decide +kernel
theorem d_15_88_135 : decode prog_15_method_88_code 135 = .ok (.iload_n 2, 1) := by decide +kernel
theorem d_15_88_136 : decode prog_15_method_88_code 136 = .ok (.iload_n 3, 1) := by decide +kernel
theorem d_15_88_137 : decode prog_15_method_88_code 137 = .ok (.iload 4, 2) := by decide +kernel
theorem d_15_88_139 : decode prog_15_method_88_code 139 = .ok (.bipush 9, 2) := by decide +kernel
theorem d_15_88_141 : decode prog_15_method_88_code 141 = .ok (.iconst 0, 1) := by decide +kernel
theorem d_15_88_142 : decode prog_15_method_88_code 142 = .ok (.invokevirtual 735, 3) := by decide +kernel
theorem d_15_88_145 : decode prog_15_method_88_code 145 = .ok (.return_, 1) := by decide +kernel
theorem d_15_88_146 : decode prog_15_method_88_code 146 = .ok (.aload_n 0, 1) := by decide +kernel
theorem d_15_88_147 : decode prog_15_method_88_code 147 = .ok (.lload 5, 2) := by decide +kernel
theorem d_15_88_149 : decode prog_15_method_88_code 149 = .ok (.lload 7, 2) := by decide +kernel
theorem d_15_88_151 : decode prog_15_method_88_code 151 = .ok (.lload 15, 2) := by decide +kernel
theorem d_15_88_153 : decode prog_15_method_88_code 153 = .ok (.lload 13, 2) := by decide +kernel
theorem d_15_88_155 : decode prog_15_method_88_code 155 = .ok (.invokevirtual 739, 3) := by decide +kernel
theorem d_15_88_158 : decode prog_15_method_88_code 158 = .ok (.aload_n 0, 1) := by decide +kernel
theorem d_15_88_159 : decode prog_15_method_88_code 159 = .ok (.aload_n 0, 1) := by decide +kernel
theorem d_15_88_160 : decode prog_15_method_88_code 160 = .ok (.getfield 9, 3) := by decide +kernel
theorem d_15_88_163 : decode prog_15_method_88_code 163 = .ok (.putfield 693, 3) := by decide +kernel
theorem d_15_88_166 : decode prog_15_method_88_code 166 = .ok (.aload_n 0, 1) := by decide +kernel
theorem d_15_88_167 : decode prog_15_method_88_code 167 = .ok (.aload_n 0, 1) := by decide +kernel
theorem d_15_88_168 : decode prog_15_method_88_code 168 = .ok (.getfield 13, 3) := by decide +kernel
theorem d_15_88_171 : decode prog_15_method_88_code 171 = .ok (.putfield 696, 3) := by decide +kernel
theorem d_15_88_174 : decode prog_15_method_88_code 174 = .ok (.aload_n 0, 1) := by decide +kernel
theorem d_15_88_175 : decode prog_15_method_88_code 175 = .ok (.getfield 693, 3) := by decide +kernel
theorem d_15_88_178 : decode prog_15_method_88_code 178 = .ok (.lconst 0, 1) := by decide +kernel
theorem d_15_88_179 : decode prog_15_method_88_code 179 = .ok (.lcmp, 1) := by decide +kernel
theorem d_15_88_180 : decode prog_15_method_88_code 180 = .ok (.ifCond .le 158, 3) := by decide +kernel
theorem d_15_88_183 : decode prog_15_method_88_code 183 = .ok (.aload_n 1, 1) := by decide +kernel
theorem d_15_88_184 : decode prog_15_method_88_code 184 = .ok (.getfield 723, 3) := by decide +kernel
theorem d_15_88_187 : decode prog_15_method_88_code 187 = .ok (.iload_n 2, 1) := by decide +kernel
theorem d_15_88_188 : decode prog_15_method_88_code 188 = .ok (.iaload, 1) := by decide +kernel
theorem d_15_88_189 : decode prog_15_method_88_code 189 = .ok (.sipush 800, 3) := by decide +kernel
theorem d_15_88_192 : decode prog_15_method_88_code 192 = .ok (.if_icmp .gt 146, 3) := by decide +kernel
theorem d_15_88_195 : decode prog_15_method_88_code 195 = .ok (.iload 12, 2) := by decide +kernel
theorem d_15_88_197 : decode prog_15_method_88_code 197 = .ok (.ifCond .ne 12, 3) := by decide +kernel
theorem d_15_88_200 : decode prog_15_method_88_code 200 = .ok (.aload_n 0, 1) := by decide +kernel
theorem d_15_88_201 : decode prog_15_method_88_code 201 = .ok (.aload_n 1, 1) := by decide +kernel
theorem d_15_88_202 : decode prog_15_method_88_code 202 = .ok (.iconst 1, 1) := by decide +kernel
theorem d_15_88_203 : decode prog_15_method_88_code 203 = .ok (.invokevirtual 742, 3) := by decide +kernel
theorem d_15_88_206 : decode prog_15_method_88_code 206 = .ok (.ifCond .ne 10, 3) := by decide +kernel
theorem d_15_88_209 : decode prog_15_method_88_code 209 = .ok (.aload_n 0, 1) := by decide +kernel
theorem d_15_88_210 : decode prog_15_method_88_code 210 = .ok (.aload_n 1, 1) := by decide +kernel
theorem d_15_88_211 : decode prog_15_method_88_code 211 = .ok (.iconst 0, 1) := by decide +kernel
theorem d_15_88_212 : decode prog_15_method_88_code 212 = .ok (.invokevirtual 742, 3) := by decide +kernel
theorem d_15_88_215 : decode prog_15_method_88_code 215 = .ok (.pop, 1) := by decide +kernel
theorem d_15_88_216 : decode prog_15_method_88_code 216 = .ok (.aload_n 0, 1) := by decide +kernel
theorem d_15_88_217 : decode prog_15_method_88_code 217 = .ok (.getfield 706, 3) := by decide +kernel
theorem d_15_88_220 : decode prog_15_method_88_code 220 = .ok (.invokestatic 685, 3) := by decide +kernel
theorem d_15_88_223 : decode prog_15_method_88_code 223 = .ok (.lstore 17, 2) := by decide +kernel
theorem d_15_88_225 : decode prog_15_method_88_code 225 = .ok (.aload_n 0, 1) := by decide +kernel
theorem d_15_88_226 : decode prog_15_method_88_code 226 = .ok (.getfield 703, 3) := by decide +kernel
theorem d_15_88_229 : decode prog_15_method_88_code 229 = .ok (.aload_n 0, 1) := by decide +kernel
theorem d_15_88_230 : decode prog_15_method_88_code 230 = .ok (.getfield 706, 3) := by decide +kernel
theorem d_15_88_233 : decode prog_15_method_88_code 233 = .ok (.invokestatic 689, 3) := by decide +kernel
theorem d_15_88_236 : decode prog_15_method_88_code 236 = .ok (.lstore 19, 2) := by decide +kernel
theorem d_15_88_238 : decode prog_15_method_88_code 238 = .ok (.aload_n 0, 1) := by decide +kernel
theorem d_15_88_239 : decode prog_15_method_88_code 239 = .ok (.aload_n 1, 1) := by decide +kernel
theorem d_15_88_240 : decode prog_15_method_88_code 240 = .ok (.iload_n 2, 1) := by decide +kernel
theorem d_15_88_241 : decode prog_15_method_88_code 241 = .ok (.iload_n 3, 1) := by decide +kernel
theorem d_15_88_242 : decode prog_15_method_88_code 242 = .ok (.iload 4, 2) := by decide +kernel
theorem d_15_88_244 : decode prog_15_method_88_code 244 = .ok (.aload_n 0, 1) := by decide +kernel
theorem d_15_88_245 : decode prog_15_method_88_code 245 = .ok (.getfield 703, 3) := by decide +kernel
theorem d_15_88_248 : decode prog_15_method_88_code 248 = .ok (.aload_n 0, 1) := by decide +kernel
theorem d_15_88_249 : decode prog_15_method_88_code 249 = .ok (.getfield 706, 3) := by decide +kernel
theorem d_15_88_252 : decode prog_15_method_88_code 252 = .ok (.invokevirtual 735, 3) := by decide +kernel
theorem d_15_88_255 : decode prog_15_method_88_code 255 = .ok (.aload_n 0, 1) := by decide +kernel
theorem d_15_88_256 : decode prog_15_method_88_code 256 = .ok (.aload_n 0, 1) := by decide +kernel
theorem d_15_88_257 : decode prog_15_method_88_code 257 = .ok (.getfield 693, 3) := by decide +kernel
theorem d_15_88_260 : decode prog_15_method_88_code 260 = .ok (.aload_n 0, 1) := by decide +kernel
theorem d_15_88_261 : decode prog_15_method_88_code 261 = .ok (.getfield 696, 3) := by decide +kernel
theorem d_15_88_264 : decode prog_15_method_88_code 264 = .ok (.lload 17, 2) := by decide +kernel
theorem d_15_88_266 : decode prog_15_method_88_code 266 = .ok (.lload 19, 2) := by decide +kernel
theorem d_15_88_268 : decode prog_15_method_88_code 268 = .ok (.invokevirtual 664, 3) := by decide +kernel
theorem d_15_88_271 : decode prog_15_method_88_code 271 = .ok (.aload_n 0, 1) := by decide +kernel
theorem d_15_88_272 : decode prog_15_method_88_code 272 = .ok (.aload_n 0, 1) := by decide +kernel
theorem d_15_88_273 : decode prog_15_method_88_code 273 = .ok (.getfield 9, 3) := by decide +kernel
theorem d_15_88_276 : decode prog_15_method_88_code 276 = .ok (.putfield 693, 3) := by decide +kernel
theorem d_15_88_279 : decode prog_15_method_88_code 279 = .ok (.aload_n 0, 1) := by decide +kernel
theorem d_15_88_280 : decode prog_15_method_88_code 280 = .ok (.aload_n 0, 1) := by decide +kernel
theorem d_15_88_281 : decode prog_15_method_88_code 281 = .ok (.getfield 13, 3) := by decide +kernel
theorem d_15_88_284 : decode prog_15_method_88_code 284 = .ok (.putfield 696, 3) := by decide +kernel
theorem d_15_88_287 : decode prog_15_method_88_code 287 = .ok (.aload_n 0, 1) := by decide +kernel
theorem d_15_88_288 : decode prog_15_method_88_code 288 = .ok (.lload 17, 2) := by decide +kernel
theorem d_15_88_290 : decode prog_15_method_88_code 290 = .ok (.lload 19, 2) := by decide +kernel
theorem d_15_88_292 : decode prog_15_method_88_code 292 = .ok (.lload 13, 2) := by decide +kernel
theorem d_15_88_294 : decode prog_15_method_88_code 294 = .ok (.lload 15, 2) := by decide +kernel
theorem d_15_88_296 : decode prog_15_method_88_code 296 = .ok (.invokevirtual 739, 3) := by decide +kernel
theorem d_15_88_299 : decode prog_15_method_88_code 299 = .ok (.aload_n 0, 1) := by decide +kernel
theorem d_15_88_300 : decode prog_15_method_88_code 300 = .ok (.aload_n 0, 1) := by decide +kernel
theorem d_15_88_301 : decode prog_15_method_88_code 301 = .ok (.getfield 709, 3) := by decide +kernel
theorem d_15_88_304 : decode prog_15_method_88_code 304 = .ok (.aload_n 0, 1) := by decide +kernel
theorem d_15_88_305 : decode prog_15_method_88_code 305 = .ok (.getfield 712, 3) := by decide +kernel
theorem d_15_88_308 : decode prog_15_method_88_code 308 = .ok (.aload_n 0, 1) := by decide +kernel
theorem d_15_88_309 : decode prog_15_method_88_code 309 = .ok (.getfield 9, 3) := by decide +kernel
theorem d_15_88_312 : decode prog_15_method_88_code 312 = .ok (.aload_n 0, 1) := by decide +kernel
theorem d_15_88_313 : decode prog_15_method_88_code 313 = .ok (.getfield 13, 3) := by decide +kernel
theorem d_15_88_316 : decode prog_15_method_88_code 316 = .ok (.invokevirtual 533, 3) := by decide +kernel
theorem d_15_88_319 : decode prog_15_method_88_code 319 = .ok (.aload_n 0, 1) := by decide +kernel
theorem d_15_88_320 : decode prog_15_method_88_code 320 = .ok (.aload_n 0, 1) := by decide +kernel
theorem d_15_88_321 : decode prog_15_method_88_code 321 = .ok (.getfield 9, 3) := by decide +kernel
theorem d_15_88_324 : decode prog_15_method_88_code 324 = .ok (.putfield 709, 3) := by decide +kernel
theorem d_15_88_327 : decode prog_15_method_88_code 327 = .ok (.aload_n 0, 1) := by decide +kernel
theorem d_15_88_328 : decode prog_15_method_88_code 328 = .ok (.aload_n 0, 1) := by decide +kernel
theorem d_15_88_329 : decode prog_15_method_88_code 329 = .ok (.getfield 13, 3) := by decide +kernel
theorem d_15_88_332 : decode prog_15_method_88_code 332 = .ok (.putfield 712, 3) := by decide +kernel
theorem d_15_88_335 : decode prog_15_method_88_code 335 = .ok (.goto (-161), 3) := by decide +kernel
theorem d_15_88_338 : decode prog_15_method_88_code 338 = .ok (.return_, 1) := by decide +kernel
theorem d_15_88_48 : decode prog_15_method_88_code 48 = .ok (.iconst 0, 1) := by decide +kernel
theorem d_15_87_0 : decode prog_15_method_87_code 0 = .ok (.lload 4, 2) := by decide +kernel
theorem d_15_87_2 : decode prog_15_method_87_code 2 = .ok (.lstore 13, 2) := by decide +kernel
theorem d_15_87_4 : decode prog_15_method_87_code 4 = .ok (.lload 6, 2) := by decide +kernel
theorem d_15_87_6 : decode prog_15_method_87_code 6 = .ok (.lstore 15, 2) := by decide +kernel
theorem d_15_87_8 : decode prog_15_method_87_code 8 = .ok (.lload 8, 2) := by decide +kernel
theorem d_15_87_10 : decode prog_15_method_87_code 10 = .ok (.lstore 17, 2) := by decide +kernel
theorem d_15_87_12 : decode prog_15_method_87_code 12 = .ok (.lload 10, 2) := by decide +kernel
theorem d_15_87_14 : decode prog_15_method_87_code 14 = .ok (.lstore 19, 2) := by decide +kernel
theorem d_15_87_16 : decode prog_15_method_87_code 16 = .ok (.lload 17, 2) := by decide +kernel
theorem d_15_87_18 : decode prog_15_method_87_code 18 = .ok (.lconst 0, 1) := by decide +kernel
theorem d_15_87_19 : decode prog_15_method_87_code 19 = .ok (.lcmp, 1) := by decide +kernel
theorem d_15_87_20 : decode prog_15_method_87_code 20 = .ok (.ifCond .le 195, 3) := by decide +kernel
theorem d_15_87_23 : decode prog_15_method_87_code 23 = .ok (.aload_n 1, 1) := by decide +kernel
theorem d_15_87_24 : decode prog_15_method_87_code 24 = .ok (.getfield 723, 3) := by decide +kernel
theorem d_15_87_27 : decode prog_15_method_87_code 27 = .ok (.iload_n 2, 1) := by decide +kernel
theorem d_15_87_28 : decode prog_15_method_87_code 28 = .ok (.iaload, 1) := by decide +kernel
theorem d_15_87_29 : decode prog_15_method_87_code 29 = .ok (.sipush 800, 3) := by decide +kernel
theorem d_15_87_32 : decode prog_15_method_87_code 32 = .ok (.if_icmp .gt 183, 3) := by decide +kernel
theorem d_15_87_35 : decode prog_15_method_87_code 35 = .ok (.lload 13, 2) := by decide +kernel
theorem d_15_87_37 : decode prog_15_method_87_code 37 = .ok (.lload 15, 2) := by decide +kernel
theorem d_15_87_39 : decode prog_15_method_87_code 39 = .ok (.aload_n 1, 1) := by decide +kernel
theorem d_15_87_40 : decode prog_15_method_87_code 40 = .ok (.getfield 404, 3) := by decide +kernel
theorem d_15_87_43 : decode prog_15_method_87_code 43 = .ok (.i2l, 1) := by decide +kernel
theorem d_15_87_44 : decode prog_15_method_87_code 44 = .ok (.aload_n 1, 1) := by decide +kernel
theorem d_15_87_45 : decode prog_15_method_87_code 45 = .ok (.getfield 407, 3) := by decide +kernel
theorem d_15_87_48 : decode prog_15_method_87_code 48 = .ok (.i2l, 1) := by decide +kernel
theorem d_15_87_49 : decode prog_15_method_87_code 49 = .ok (.invokestatic 660, 3) := by decide +kernel
theorem d_15_87_52 : decode prog_15_method_87_code 52 = .ok (.lstore 21, 2) := by decide +kernel
theorem d_15_87_54 : decode prog_15_method_87_code 54 = .ok (.aload_n 0, 1) := by decide +kernel
theorem d_15_87_55 : decode prog_15_method_87_code 55 = .ok (.lload 21, 2) := by decide +kernel
theorem d_15_87_57 : decode prog_15_method_87_code 57 = .ok (.lconst 1, 1) := by decide +kernel
theorem d_15_87_58 : decode prog_15_method_87_code 58 = .ok (.ladd, 1) := by decide +kernel
theorem d_15_87_59 : decode prog_15_method_87_code 59 = .ok (.aload_n 1, 1) := by decide +kernel
theorem d_15_87_60 : decode prog_15_method_87_code 60 = .ok (.getfield 404, 3) := by decide +kernel
theorem d_15_87_63 : decode prog_15_method_87_code 63 = .ok (.i2l, 1) := by decide +kernel
theorem d_15_87_64 : decode prog_15_method_87_code 64 = .ok (.lmul, 1) := by decide +kernel
theorem d_15_87_65 : decode prog_15_method_87_code 65 = .ok (.aload_n 1, 1) := by decide +kernel
theorem d_15_87_66 : decode prog_15_method_87_code 66 = .ok (.getfield 407, 3) := by decide +kernel
theorem d_15_87_69 : decode prog_15_method_87_code 69 = .ok (.i2l, 1) := by decide +kernel
theorem d_15_87_70 : decode prog_15_method_87_code 70 = .ok (.lload 13, 2) := by decide +kernel
theorem d_15_87_72 : decode prog_15_method_87_code 72 = .ok (.lload 15, 2) := by decide +kernel
theorem d_15_87_74 : decode prog_15_method_87_code 74 = .ok (.invokevirtual 664, 3) := by decide +kernel
theorem d_15_87_77 : decode prog_15_method_87_code 77 = .ok (.aload_n 0, 1) := by decide +kernel
theorem d_15_87_78 : decode prog_15_method_87_code 78 = .ok (.getfield 9, 3) := by decide +kernel
theorem d_15_87_81 : decode prog_15_method_87_code 81 = .ok (.lstore 23, 2) := by decide +kernel
theorem d_15_87_83 : decode prog_15_method_87_code 83 = .ok (.aload_n 0, 1) := by decide +kernel
theorem d_15_87_84 : decode prog_15_method_87_code 84 = .ok (.getfield 13, 3) := by decide +kernel
theorem d_15_87_87 : decode prog_15_method_87_code 87 = .ok (.lstore 25, 2) := by decide +kernel
theorem d_15_87_89 : decode prog_15_method_87_code 89 = .ok (.lload 17, 2) := by decide +kernel
theorem d_15_87_91 : decode prog_15_method_87_code 91 = .ok (.lload 19, 2) := by decide +kernel
theorem d_15_87_93 : decode prog_15_method_87_code 93 = .ok (.lload 23, 2) := by decide +kernel
theorem d_15_87_95 : decode prog_15_method_87_code 95 = .ok (.lload 25, 2) := by decide +kernel
theorem d_15_87_97 : decode prog_15_method_87_code 97 = .ok (.invokestatic 537, 3) := by decide +kernel
theorem d_15_87_100 : decode prog_15_method_87_code 100 = .ok (.ifCond .ge 11, 3) := by decide +kernel
theorem d_15_87_103 : decode prog_15_method_87_code 103 = .ok (.lload 17, 2) := by decide +kernel
theorem d_15_87_105 : decode prog_15_method_87_code 105 = .ok (.lstore 23, 2) := by decide +kernel
theorem d_15_87_107 : decode prog_15_method_87_code 107 = .ok (.lload 19, 2) := by decide +kernel
theorem d_15_87_109 : decode prog_15_method_87_code 109 = .ok (.lstore 25, 2) := by decide +kernel
theorem d_15_87_111 : decode prog_15_method_87_code 111 = .ok (.aload_n 0, 1) := by decide +kernel
theorem d_15_87_112 : decode prog_15_method_87_code 112 = .ok (.lload 13, 2) := by decide +kernel
theorem d_15_87_114 : decode prog_15_method_87_code 114 = .ok (.lload 15, 2) := by decide +kernel
theorem d_15_87_116 : decode prog_15_method_87_code 116 = .ok (.lload 21, 2) := by decide +kernel
theorem d_15_87_118 : decode prog_15_method_87_code 118 = .ok (.aload_n 1, 1) := by decide +kernel
theorem d_15_87_119 : decode prog_15_method_87_code 119 = .ok (.getfield 404, 3) := by decide +kernel
theorem d_15_87_122 : decode prog_15_method_87_code 122 = .ok (.i2l, 1) := by decide +kernel
theorem d_15_87_123 : decode prog_15_method_87_code 123 = .ok (.lmul, 1) := by decide +kernel
theorem d_15_87_124 : decode prog_15_method_87_code 124 = .ok (.aload_n 1, 1) := by decide +kernel
theorem d_15_87_125 : decode prog_15_method_87_code 125 = .ok (.getfield 407, 3) := by decide +kernel
theorem d_15_87_128 : decode prog_15_method_87_code 128 = .ok (.i2l, 1) := by decide +kernel
theorem d_15_87_129 : decode prog_15_method_87_code 129 = .ok (.invokevirtual 664, 3) := by decide +kernel
theorem d_15_87_132 : decode prog_15_method_87_code 132 = .ok (.aload_n 0, 1) := by decide +kernel
theorem d_15_87_133 : decode prog_15_method_87_code 133 = .ok (.aload_n 0, 1) := by decide +kernel
theorem d_15_87_134 : decode prog_15_method_87_code 134 = .ok (.getfield 9, 3) := by decide +kernel
theorem d_15_87_137 : decode prog_15_method_87_code 137 = .ok (.putfield 709, 3) := by decide +kernel
theorem d_15_87_140 : decode prog_15_method_87_code 140 = .ok (.aload_n 0, 1) := by decide +kernel
theorem d_15_87_141 : decode prog_15_method_87_code 141 = .ok (.aload_n 0, 1) := by decide +kernel
theorem d_15_87_142 : decode prog_15_method_87_code 142 = .ok (.getfield 13, 3) := by decide +kernel
theorem d_15_87_145 : decode prog_15_method_87_code 145 = .ok (.putfield 712, 3) := by decide +kernel
theorem d_15_87_148 : decode prog_15_method_87_code 148 = .ok (.aload_n 0, 1) := by decide +kernel
theorem d_15_87_149 : decode prog_15_method_87_code 149 = .ok (.aload_n 1, 1) := by decide +kernel
theorem d_15_87_150 : decode prog_15_method_87_code 150 = .ok (.iload_n 2, 1) := by decide +kernel
theorem d_15_87_151 : decode prog_15_method_87_code 151 = .ok (.iload_n 3, 1) := by decide +kernel
theorem d_15_87_152 : decode prog_15_method_87_code 152 = .ok (.lload 21, 2) := by decide +kernel
theorem d_15_87_154 : decode prog_15_method_87_code 154 = .ok (.l2i, 1) := by decide +kernel
theorem d_15_87_155 : decode prog_15_method_87_code 155 = .ok (.lload 23, 2) := by decide +kernel
theorem d_15_87_157 : decode prog_15_method_87_code 157 = .ok (.lload 25, 2) := by decide +kernel
theorem d_15_87_159 : decode prog_15_method_87_code 159 = .ok (.iload 12, 2) := by decide +kernel
theorem d_15_87_161 : decode prog_15_method_87_code 161 = .ok (.invokevirtual 731, 3) := by decide +kernel
theorem d_15_87_164 : decode prog_15_method_87_code 164 = .ok (.aload_n 0, 1) := by decide +kernel
theorem d_15_87_165 : decode prog_15_method_87_code 165 = .ok (.lload 13, 2) := by decide +kernel
theorem d_15_87_167 : decode prog_15_method_87_code 167 = .ok (.lload 15, 2) := by decide +kernel
theorem d_15_87_169 : decode prog_15_method_87_code 169 = .ok (.lload 23, 2) := by decide +kernel
theorem d_15_87_171 : decode prog_15_method_87_code 171 = .ok (.lload 25, 2) := by decide +kernel
theorem d_15_87_173 : decode prog_15_method_87_code 173 = .ok (.invokevirtual 533, 3) := by decide +kernel
theorem d_15_87_176 : decode prog_15_method_87_code 176 = .ok (.aload_n 0, 1) := by decide +kernel
theorem d_15_87_177 : decode prog_15_method_87_code 177 = .ok (.getfield 9, 3) := by decide +kernel
theorem d_15_87_180 : decode prog_15_method_87_code 180 = .ok (.lstore 13, 2) := by decide +kernel
theorem d_15_87_182 : decode prog_15_method_87_code 182 = .ok (.aload_n 0, 1) := by decide +kernel
theorem d_15_87_183 : decode prog_15_method_87_code 183 = .ok (.getfield 13, 3) := by decide +kernel
theorem d_15_87_186 : decode prog_15_method_87_code 186 = .ok (.lstore 15, 2) := by decide +kernel
theorem d_15_87_188 : decode prog_15_method_87_code 188 = .ok (.aload_n 0, 1) := by decide +kernel
theorem d_15_87_189 : decode prog_15_method_87_code 189 = .ok (.lload 17, 2) := by decide +kernel
theorem d_15_87_191 : decode prog_15_method_87_code 191 = .ok (.lload 19, 2) := by decide +kernel
theorem d_15_87_193 : decode prog_15_method_87_code 193 = .ok (.lload 23, 2) := by decide +kernel
theorem d_15_87_195 : decode prog_15_method_87_code 195 = .ok (.lload 25, 2) := by decide +kernel
theorem d_15_87_197 : decode prog_15_method_87_code 197 = .ok (.invokevirtual 664, 3) := by decide +kernel
theorem d_15_87_200 : decode prog_15_method_87_code 200 = .ok (.aload_n 0, 1) := by decide +kernel
theorem d_15_87_201 : decode prog_15_method_87_code 201 = .ok (.getfield 9, 3) := by decide +kernel
theorem d_15_87_204 : decode prog_15_method_87_code 204 = .ok (.lstore 17, 2) := by decide +kernel
theorem d_15_87_206 : decode prog_15_method_87_code 206 = .ok (.aload_n 0, 1) := by decide +kernel
theorem d_15_87_207 : decode prog_15_method_87_code 207 = .ok (.getfield 13, 3) := by decide +kernel
theorem d_15_87_210 : decode prog_15_method_87_code 210 = .ok (.lstore 19, 2) := by decide +kernel
theorem d_15_87_212 : decode prog_15_method_87_code 212 = .ok (.goto (-196), 3) := by decide +kernel
theorem d_15_87_215 : decode prog_15_method_87_code 215 = .ok (.return_, 1) := by decide +kernel
abbrev Q_M_stands (D : va_G) (ca : Nat → ClassId) (ad : Nat → Int → Nat → Nat) (L : List Nat) (r : Int) (F : zF) (B : zB) (A : Nat → Prop) : Array Value → State → Outcome → State → Prop := va_Qi (S := Unit) (fun p _ => p = iI r) (fun _ => zPo D ca ad lnM nM L F B A) A
def f_M_stands_92 (K : Nat) (s0 : Int) (F : zF) (B : zB) : zO := if (s0 = 0 ∨ s0 = 1) then some (s0, F, B) else none
set_option maxHeartbeats 4000000 in
set_option maxRecDepth 100000 in
theorem b_M_stands_92 {D : va_G} {ca : Nat → ClassId} {ad : Nat → Int → Nat → Nat} {L : List Nat} {aS vS : Nat → Nat} {A : Nat → Prop} {p : Program} {l : Launch} {e : Env} {s : State} {m : MethodId} {args : Array Value} {below : List Frame} {meth : Method} {c : Code} {K : Nat} {r : Int} {F9 : zF} {B9 : zB} (X : zX D ca L aS vS A p s m args meth c prog_15_method_85_code 12 (Option.some Jvm.ClassFile.FieldType.boolean) "StaveHouseModel") {s0 : Int} {F : zF} {B : zB} {H : Heap} {locs : List Loc} {ls : Array Slot} (hf : f_M_stands_92 K s0 F B = some (r, F9, B9)) (hZ : zH D ca ad lnM nM L F B A H) (hS : va_S A s.heap H locs) (hl : lv_has ls 12 []) : W p l e ({ frames := 4, cells := 0, slots := 0, locals := 127 } : Room) s m args below meth c H locs 0 0 (MQ below (Q_M_stands D ca ad L r F9 B9 A) args s 0 0 A) (F0 m 92 ls [.int (iI s0)]) := by
  obtain ⟨hx, hb, hr, hml, hown, hts, hlk, hK, hA, hL, hX⟩ := id X
  replace hf : (if (s0 = 0 ∨ s0 = 1) then some (s0, F, B) else none) = some (r, F9, B9) := hf
  obtain ⟨g11, hf⟩ := gif hf
  cases hf
  exact W.zret hx hb hr (zbool g11) (fun t ht hW => ⟨⟨_, (), rfl, rfl, by rw [ht]; exact hZ, va_K.moved hW.alike hK⟩, hS.F ht⟩) hS.2.2 d_15_85_92 hlk

def f_M_stands_84 (K : Nat) (s0 : Int) (s1 : Int) (F : zF) (B : zB) : zO := if r32 s0 then if r32 s1 then (if s1 < s0 then f_M_stands_92 K 0 F B else f_M_stands_92 K 1 F B) else none else none
set_option maxHeartbeats 4000000 in
set_option maxRecDepth 100000 in
theorem b_M_stands_84 {D : va_G} {ca : Nat → ClassId} {ad : Nat → Int → Nat → Nat} {L : List Nat} {aS vS : Nat → Nat} {A : Nat → Prop} {p : Program} {l : Launch} {e : Env} {s : State} {m : MethodId} {args : Array Value} {below : List Frame} {meth : Method} {c : Code} {K : Nat} {r : Int} {F9 : zF} {B9 : zB} (X : zX D ca L aS vS A p s m args meth c prog_15_method_85_code 12 (Option.some Jvm.ClassFile.FieldType.boolean) "StaveHouseModel") {s0 : Int} {s1 : Int} {F : zF} {B : zB} {H : Heap} {locs : List Loc} {ls : Array Slot} (hf : f_M_stands_84 K s0 s1 F B = some (r, F9, B9)) (hZ : zH D ca ad lnM nM L F B A H) (hS : va_S A s.heap H locs) (hl : lv_has ls 12 []) : W p l e ({ frames := 4, cells := 0, slots := 0, locals := 127 } : Room) s m args below meth c H locs 0 0 (MQ below (Q_M_stands D ca ad L r F9 B9 A) args s 0 0 A) (F0 m 84 ls [.int (iI s1), .int (iI s0)]) := by
  obtain ⟨hx, hb, hr, hml, hown, hts, hlk, hK, hA, hL, hX⟩ := id X
  replace hf : (if r32 s0 then if r32 s1 then (if s1 < s0 then f_M_stands_92 K 0 F B else f_M_stands_92 K 1 F B) else none else none) = some (r, F9, B9) := hf
  obtain ⟨g8, hf⟩ := gif hf
  obtain ⟨g9, hf⟩ := gif hf
  refine zgt (tgt := 91) hx hb g8 g9 d_15_85_84 (by decide) (fun h10 => ?_) (fun h10 => ?_)
  · replace hf := gpos hf h10
    refine lv_iconst (v := iI 0) hx hb d_15_85_91 rfl ?_
    exact b_M_stands_92 X hf hZ hS (lv_sub hl [] rfl)
  · replace hf := gneg hf h10
    refine lv_iconst (v := iI 1) hx hb d_15_85_87 rfl ?_
    refine lv_goto (tgt := 92) hx hb d_15_85_88 (by decide) ?_
    exact b_M_stands_92 X hf hZ hS (lv_sub hl [] rfl)

def f_M_stands (K : Nat) (l1 : Int) (l2 : Int) (l4 : Int) (F : zF) (B : zB) : zO := zbind (f_M_plus K (F 14 0 54) (F 14 0 55) l2 l4 F B) (fun r1 F1 B1 => zbind (f_M_strength K l1 (F1 14 0 54) (F1 14 0 55) F1 B1) (fun r2 F2 B2 => zbind (f_M_strength K l1 (F1 14 0 0) (F1 14 0 1) F2 B2) (fun r3 F3 B3 => zbind (f_M_between_1 K l1 (F3 14 0 54) (F3 14 0 55) (F1 14 0 0) (F1 14 0 1) F3 B3) (fun r4 F4 B4 => if r32 r2 then if r32 r3 then (if r2 ≤ r3 then f_M_stands_84 K r4 r3 F4 B4 else f_M_stands_84 K r4 r2 F4 B4) else none else none))))
set_option maxHeartbeats 4000000 in
set_option maxRecDepth 100000 in
theorem c_M_stands {l : Launch} {D : va_G} {ca : Nat → ClassId} {ad : Nat → Int → Nat → Nat} {L : List Nat} {aS vS : Nat → Nat} {sz K : Nat} {l1 : Int} {l2 : Int} {l4 : Int} {F F9 : zF} {B B9 : zB} {r : Int} (hf : f_M_stands K l1 l2 l4 F B = some (r, F9, B9)) : Met l ({ cls := "StaveHouseModel", name := "stands", desc := "(LStaveHouseModel$Piece;JJ)Z" } : Jvm.MethodName) (Cond.code ({ cls := "StaveHouseModel", name := "stands", desc := "(LStaveHouseModel$Piece;JJ)Z" } : Jvm.MethodName) prog_15_method_85_code 12 (Option.some Jvm.ClassFile.FieldType.boolean) :: wAll) ({ frames := 4, cells := 0, slots := 0, locals := 127 } : Room) (va_Pc [.ref (ad 14 0 0), .ref (ad 13 l1 0), .long (lI l2), .long (lI l4)] (zPre D ca ad lnM nM L aS vS F B sz)) (Q_M_stands D ca ad L r F9 B9 (zA L sz)) 0 0 (zA L sz) := by
  refine zMet (Qc := Q_M_stands D ca ad L r F9 B9) (lv := [(0, .ref (ad 14 0 0)), (1, .ref (ad 13 l1 0)), (2, .long (lI l2)), (4, .long (lI l4))]) (by decide) (Nat.le_of_ble_eq_true rfl) rfl (fun A p e s m below meth c ls X hZ hS hl => ?_)
  obtain ⟨hx, hb, hr, hml, hown, hts, hlk, hK, hA, hL, hX⟩ := id X
  replace hf : (zbind (f_M_plus K (F 14 0 54) (F 14 0 55) l2 l4 F B) (fun r1 F1 B1 => zbind (f_M_strength K l1 (F1 14 0 54) (F1 14 0 55) F1 B1) (fun r2 F2 B2 => zbind (f_M_strength K l1 (F1 14 0 0) (F1 14 0 1) F2 B2) (fun r3 F3 B3 => zbind (f_M_between_1 K l1 (F3 14 0 54) (F3 14 0 55) (F1 14 0 0) (F1 14 0 1) F3 B3) (fun r4 F4 B4 => if r32 r2 then if r32 r3 then (if r2 ≤ r3 then f_M_stands_84 K r4 r3 F4 B4 else f_M_stands_84 K r4 r2 F4 B4) else none else none))))) = some (r, F9, B9) := hf
  refine lv_aload_n hx hb d_15_85_0 rfl (lv_at hl 0 rfl) ?_
  refine lv_aload_n hx hb d_15_85_1 rfl (lv_at hl 0 rfl) ?_
  refine zget (ci := 14) (C := RX14) (T := TX14) (v := .long (lI (F 14 0 54))) (k := 54) hx hb hts inW_14 hown hK hZ (by decide) (by decide) rfl (by decide) k_11_52 rfl d_15_85_2 ?_
  refine lv_aload_n hx hb d_15_85_5 rfl (lv_at hl 0 rfl) ?_
  refine zget (ci := 14) (C := RX14) (T := TX14) (v := .long (lI (F 14 0 55))) (k := 55) hx hb hts inW_14 hown hK hZ (by decide) (by decide) rfl (by decide) k_11_53 rfl d_15_85_6 ?_
  refine lv_lload_n hx hb d_15_85_9 rfl (lv_at hl 2 rfl) ?_
  refine lv_lload hx hb d_15_85_10 (lv_at hl 3 rfl) ?_
  obtain ⟨r1, F1, B1, hc1, hf⟩ := gbind hf
  refine va_callv (va_runV (As := [.long (lI (F 14 0 54)), .long (lI (F 14 0 55)), .long (lI l2), .long (lI l4)]) (rest := []) ⟨hx, hb, hml, hown, hts⟩ (c_M_plus (l := l) hc1) (cwV 4 hts (gdV k_12_147 k_12_149 ks_135 k_1_9 k_12_150) rfl rfl rfl (by decide +kernel) ⟨Nat.le_of_ble_eq_true rfl, Nat.le_of_ble_eq_true rfl⟩) (zPV X hZ hS (ci := 14) (by decide) (by decide) (r := (RX14, TX14, 107)) rfl [.long (lI (F 14 0 54)), .long (lI (F 14 0 55)), .long (lI l2), .long (lI l4)]) rfl rfl hl.1 rfl (lv_room (Nat.le_of_ble_eq_true rfl)) d_15_85_12 ⟨Nat.le_of_ble_eq_true rfl, Nat.le_of_ble_eq_true rfl⟩) hS (fun q _ h => zAin X hS q h) (zAin X hS) (fun u1 t1 H1 locs1 ht1 hv1 hw1 hB1 hz1 hk1 hS1 => ?_)
  have hZ1 := zBack X ht1 hB1
  refine lv_aload_n hx hb d_15_85_15 rfl (lv_at hl 0 rfl) ?_
  refine zget (ci := 14) (C := RX14) (T := TX14) (v := .long (lI (F1 14 0 0))) (k := 0) hx hb hts inW_14 hown hK hZ1 (by decide) (by decide) rfl (by decide) k_10_238 rfl d_15_85_16 ?_
  refine lv_lstore (lv' := [(6, .long (lI (F1 14 0 0))), (0, .ref (ad 14 0 0)), (1, .ref (ad 13 l1 0)), (2, .long (lI l2)), (4, .long (lI l4))]) hx hb d_15_85_19 hl (by decide) rfl (fun ls hl => ?_)
  refine lv_aload_n hx hb d_15_85_21 rfl (lv_at hl 1 rfl) ?_
  refine zget (ci := 14) (C := RX14) (T := TX14) (v := .long (lI (F1 14 0 1))) (k := 1) hx hb hts inW_14 hown hK hZ1 (by decide) (by decide) rfl (by decide) k_10_239 rfl d_15_85_22 ?_
  refine lv_lstore (lv' := [(8, .long (lI (F1 14 0 1))), (6, .long (lI (F1 14 0 0))), (0, .ref (ad 14 0 0)), (1, .ref (ad 13 l1 0)), (2, .long (lI l2)), (4, .long (lI l4))]) hx hb d_15_85_25 hl (by decide) rfl (fun ls hl => ?_)
  refine lv_aload_n hx hb d_15_85_27 rfl (lv_at hl 2 rfl) ?_
  refine lv_aload_n hx hb d_15_85_28 rfl (lv_at hl 3 rfl) ?_
  refine lv_aload_n hx hb d_15_85_29 rfl (lv_at hl 2 rfl) ?_
  refine zget (ci := 14) (C := RX14) (T := TX14) (v := .long (lI (F1 14 0 54))) (k := 54) hx hb hts inW_14 hown hK hZ1 (by decide) (by decide) rfl (by decide) k_11_52 rfl d_15_85_30 ?_
  refine lv_aload_n hx hb d_15_85_33 rfl (lv_at hl 2 rfl) ?_
  refine zget (ci := 14) (C := RX14) (T := TX14) (v := .long (lI (F1 14 0 55))) (k := 55) hx hb hts inW_14 hown hK hZ1 (by decide) (by decide) rfl (by decide) k_11_53 rfl d_15_85_34 ?_
  obtain ⟨r2, F2, B2, hc2, hf⟩ := gbind hf
  refine va_calli (va_runV (As := [.ref (ad 13 l1 0), .long (lI (F1 14 0 54)), .long (lI (F1 14 0 55))]) (rest := []) ⟨hx, hb, hml, hown, hts⟩ (c_M_strength (l := l) hc2) (cwV 3 hts (gdV k_13_175 k_13_177 ks_182 k_1_9 k_13_178) rfl rfl rfl (by decide +kernel) ⟨Nat.le_of_ble_eq_true rfl, Nat.le_of_ble_eq_true rfl⟩) (zPV X hZ1 hS1 (ci := 14) (by decide) (by decide) (r := (RX14, TX14, 107)) rfl [.ref (ad 13 l1 0), .long (lI (F1 14 0 54)), .long (lI (F1 14 0 55))]) rfl rfl hl.1 rfl (lv_room (Nat.le_of_ble_eq_true rfl)) d_15_85_37 ⟨Nat.le_of_ble_eq_true rfl, Nat.le_of_ble_eq_true rfl⟩) hS1 (fun q _ h => zAin X hS1 q h) (zAin X hS1) (fun p2 u2 t2 H2 locs2 ht2 hv2 hw2 hB2 hz2 hk2 hS2 => ?_)
  have hZ2 := zBack X ht2 hB2
  subst hw2
  refine lv_istore (lv' := [(10, .int (iI r2)), (8, .long (lI (F1 14 0 1))), (6, .long (lI (F1 14 0 0))), (0, .ref (ad 14 0 0)), (1, .ref (ad 13 l1 0)), (2, .long (lI l2)), (4, .long (lI l4))]) hx hb d_15_85_40 hl (by decide) rfl (fun ls hl => ?_)
  refine lv_aload_n hx hb d_15_85_42 rfl (lv_at hl 3 rfl) ?_
  refine lv_aload_n hx hb d_15_85_43 rfl (lv_at hl 4 rfl) ?_
  refine lv_lload hx hb d_15_85_44 (lv_at hl 2 rfl) ?_
  refine lv_lload hx hb d_15_85_46 (lv_at hl 1 rfl) ?_
  obtain ⟨r3, F3, B3, hc3, hf⟩ := gbind hf
  refine va_calli (va_runV (As := [.ref (ad 13 l1 0), .long (lI (F1 14 0 0)), .long (lI (F1 14 0 1))]) (rest := []) ⟨hx, hb, hml, hown, hts⟩ (c_M_strength (l := l) hc3) (cwV 3 hts (gdV k_13_175 k_13_177 ks_182 k_1_9 k_13_178) rfl rfl rfl (by decide +kernel) ⟨Nat.le_of_ble_eq_true rfl, Nat.le_of_ble_eq_true rfl⟩) (zPV X hZ2 hS2 (ci := 14) (by decide) (by decide) (r := (RX14, TX14, 107)) rfl [.ref (ad 13 l1 0), .long (lI (F1 14 0 0)), .long (lI (F1 14 0 1))]) rfl rfl hl.1 rfl (lv_room (Nat.le_of_ble_eq_true rfl)) d_15_85_48 ⟨Nat.le_of_ble_eq_true rfl, Nat.le_of_ble_eq_true rfl⟩) hS2 (fun q _ h => zAin X hS2 q h) (zAin X hS2) (fun p3 u3 t3 H3 locs3 ht3 hv3 hw3 hB3 hz3 hk3 hS3 => ?_)
  have hZ3 := zBack X ht3 hB3
  subst hw3
  refine lv_istore (lv' := [(11, .int (iI r3)), (10, .int (iI r2)), (8, .long (lI (F1 14 0 1))), (6, .long (lI (F1 14 0 0))), (0, .ref (ad 14 0 0)), (1, .ref (ad 13 l1 0)), (2, .long (lI l2)), (4, .long (lI l4))]) hx hb d_15_85_51 hl (by decide) rfl (fun ls hl => ?_)
  refine lv_aload_n hx hb d_15_85_53 rfl (lv_at hl 4 rfl) ?_
  refine lv_aload_n hx hb d_15_85_54 rfl (lv_at hl 5 rfl) ?_
  refine lv_aload_n hx hb d_15_85_55 rfl (lv_at hl 4 rfl) ?_
  refine zget (ci := 14) (C := RX14) (T := TX14) (v := .long (lI (F3 14 0 54))) (k := 54) hx hb hts inW_14 hown hK hZ3 (by decide) (by decide) rfl (by decide) k_11_52 rfl d_15_85_56 ?_
  refine lv_aload_n hx hb d_15_85_59 rfl (lv_at hl 4 rfl) ?_
  refine zget (ci := 14) (C := RX14) (T := TX14) (v := .long (lI (F3 14 0 55))) (k := 55) hx hb hts inW_14 hown hK hZ3 (by decide) (by decide) rfl (by decide) k_11_53 rfl d_15_85_60 ?_
  refine lv_lload hx hb d_15_85_63 (lv_at hl 3 rfl) ?_
  refine lv_lload hx hb d_15_85_65 (lv_at hl 2 rfl) ?_
  obtain ⟨r4, F4, B4, hc4, hf⟩ := gbind hf
  refine va_calli (va_runV (As := [.ref (ad 13 l1 0), .long (lI (F3 14 0 54)), .long (lI (F3 14 0 55)), .long (lI (F1 14 0 0)), .long (lI (F1 14 0 1))]) (rest := []) ⟨hx, hb, hml, hown, hts⟩ (c_M_between_1 (l := l) hc4) (cwV 5 hts (gdV k_13_188 k_13_190 ks_183 k_1_9 k_13_191) rfl rfl rfl (by decide +kernel) ⟨Nat.le_of_ble_eq_true rfl, Nat.le_of_ble_eq_true rfl⟩) (zPV X hZ3 hS3 (ci := 14) (by decide) (by decide) (r := (RX14, TX14, 107)) rfl [.ref (ad 13 l1 0), .long (lI (F3 14 0 54)), .long (lI (F3 14 0 55)), .long (lI (F1 14 0 0)), .long (lI (F1 14 0 1))]) rfl rfl hl.1 rfl (lv_room (Nat.le_of_ble_eq_true rfl)) d_15_85_67 ⟨Nat.le_of_ble_eq_true rfl, Nat.le_of_ble_eq_true rfl⟩) hS3 (fun q _ h => zAin X hS3 q h) (zAin X hS3) (fun p4 u4 t4 H4 locs4 ht4 hv4 hw4 hB4 hz4 hk4 hS4 => ?_)
  have hZ4 := zBack X ht4 hB4
  subst hw4
  refine lv_iload hx hb d_15_85_70 (lv_at hl 1 rfl) ?_
  refine lv_iload hx hb d_15_85_72 (lv_at hl 0 rfl) ?_
  obtain ⟨g5, hf⟩ := gif hf
  obtain ⟨g6, hf⟩ := gif hf
  refine zle (tgt := 82) hx hb g5 g6 d_15_85_74 (by decide) (fun h7 => ?_) (fun h7 => ?_)
  · replace hf := gpos hf h7
    refine lv_iload hx hb d_15_85_82 (lv_at hl 0 rfl) ?_
    exact b_M_stands_84 X hf hZ4 hS4 (lv_sub hl [] rfl)
  · replace hf := gneg hf h7
    refine lv_iload hx hb d_15_85_77 (lv_at hl 1 rfl) ?_
    refine lv_goto (tgt := 84) hx hb d_15_85_79 (by decide) ?_
    exact b_M_stands_84 X hf hZ4 hS4 (lv_sub hl [] rfl)

abbrev Q_M_chordAt (D : va_G) (ca : Nat → ClassId) (ad : Nat → Int → Nat → Nat) (L : List Nat) (r : Int) (F : zF) (B : zB) (A : Nat → Prop) : Array Value → State → Outcome → State → Prop := va_Qv (S := Unit) (fun _ => True) (fun _ => zPo D ca ad lnM nM L F B A) A
def f_M_chordAt_48 (K : Nat)  (F : zF) (B : zB) : zO := some (0, F, B)
set_option maxHeartbeats 4000000 in
set_option maxRecDepth 100000 in
theorem b_M_chordAt_48 {D : va_G} {ca : Nat → ClassId} {ad : Nat → Int → Nat → Nat} {L : List Nat} {aS vS : Nat → Nat} {A : Nat → Prop} {p : Program} {l : Launch} {e : Env} {s : State} {m : MethodId} {args : Array Value} {below : List Frame} {meth : Method} {c : Code} {K : Nat} {r : Int} {F9 : zF} {B9 : zB} (X : zX D ca L aS vS A p s m args meth c prog_15_method_175_code 4 (Option.none : Option Jvm.ClassFile.FieldType) "StaveHouseModel")  {F : zF} {B : zB} {H : Heap} {locs : List Loc} {ls : Array Slot} (hf : f_M_chordAt_48 K  F B = some (r, F9, B9)) (hZ : zH D ca ad lnM nM L F B A H) (hS : va_S A s.heap H locs) (hl : lv_has ls 4 []) : W p l e ({ frames := 4, cells := 0, slots := 0, locals := 92 } : Room) s m args below meth c H locs 0 0 (MQ below (Q_M_chordAt D ca ad L r F9 B9 A) args s 0 0 A) (F0 m 48 ls []) := by
  obtain ⟨hx, hb, hr, hml, hown, hts, hlk, hK, hA, hL, hX⟩ := id X
  replace hf : (some (0, F, B)) = some (r, F9, B9) := hf
  cases hf
  exact W.vret hx hb hr (fun t ht hW => ⟨⟨(), rfl, trivial, by rw [ht]; exact hZ, va_K.moved hW.alike hK⟩, hS.F ht⟩) hS.2.2 d_15_175_48 hlk

def f_M_chordAt_13 (K : Nat) : Nat → Int → zF → zB → zO
  | 0, _, _, _ => none
  | n + 1, l3, F, B => if r32 l3 then if r32 (F 14 0 100) then (if (F 14 0 100) ≤ l3 then f_M_chordAt_48 K F B else if r32 (F 14 0 104) then (if 0 ≤ (F 14 0 104) then f_M_chordAt_48 K F B else zbind (f_M_kindOn K l3 (zup3 F 14 0 105 l3) B) (fun r9 F9 B9 => f_M_chordAt_13 K n (l3 + 1) (zup3 F9 14 0 104 r9) B9)) else none) else none else none
set_option maxHeartbeats 4000000 in
set_option maxRecDepth 100000 in
theorem b_M_chordAt_13 {D : va_G} {ca : Nat → ClassId} {ad : Nat → Int → Nat → Nat} {L : List Nat} {aS vS : Nat → Nat} {A : Nat → Prop} {p : Program} {l : Launch} {e : Env} {s : State} {m : MethodId} {args : Array Value} {below : List Frame} {meth : Method} {c : Code} {K : Nat} {r : Int} {F9 : zF} {B9 : zB} (X : zX D ca L aS vS A p s m args meth c prog_15_method_175_code 4 (Option.none : Option Jvm.ClassFile.FieldType) "StaveHouseModel") : ∀ {n : Nat} {l3 : Int} {F : zF} {B : zB} {H : Heap} {locs : List Loc} {ls : Array Slot}, f_M_chordAt_13 K n l3 F B = some (r, F9, B9) → zH D ca ad lnM nM L F B A H → va_S A s.heap H locs → lv_has ls 4 [(3, .int (iI l3)), (0, .ref (ad 14 0 0))] → W p l e ({ frames := 4, cells := 0, slots := 0, locals := 92 } : Room) s m args below meth c H locs 0 0 (MQ below (Q_M_chordAt D ca ad L r F9 B9 A) args s 0 0 A) (F0 m 13 ls []) := by
  obtain ⟨hx, hb, hr, hml, hown, hts, hlk, hK, hA, hL, hX⟩ := id X
  intro n
  induction n with
  | zero =>
    intros
    rename_i hf _ _ _
    cases hf
  | succ n ih =>
    intro l3 F B H locs ls hf hZ hS hl
    replace hf : (if r32 l3 then if r32 (F 14 0 100) then (if (F 14 0 100) ≤ l3 then f_M_chordAt_48 K F B else if r32 (F 14 0 104) then (if 0 ≤ (F 14 0 104) then f_M_chordAt_48 K F B else zbind (f_M_kindOn K l3 (zup3 F 14 0 105 l3) B) (fun r9 F9 B9 => f_M_chordAt_13 K n (l3 + 1) (zup3 F9 14 0 104 r9) B9)) else none) else none else none) = some (r, F9, B9) := hf
    refine lv_iload_n hx hb d_15_175_13 rfl (lv_at hl 0 rfl) ?_
    refine lv_aload_n hx hb d_15_175_14 rfl (lv_at hl 1 rfl) ?_
    refine zget (ci := 14) (C := RX14) (T := TX14) (v := .int (iI (F 14 0 100))) (k := 100) hx hb hts inW_14 hown hK hZ (by decide) (by decide) rfl (by decide) k_11_98 rfl d_15_175_15 ?_
    obtain ⟨g3, hf⟩ := gif hf
    obtain ⟨g4, hf⟩ := gif hf
    refine zge (tgt := 48) hx hb g3 g4 d_15_175_18 (by decide) (fun h5 => ?_) (fun h5 => ?_)
    · replace hf := gpos hf h5
      exact b_M_chordAt_48 X hf hZ hS (lv_sub hl [] rfl)
    · replace hf := gneg hf h5
      refine lv_aload_n hx hb d_15_175_21 rfl (lv_at hl 1 rfl) ?_
      refine zget (ci := 14) (C := RX14) (T := TX14) (v := .int (iI (F 14 0 104))) (k := 104) hx hb hts inW_14 hown hK hZ (by decide) (by decide) rfl (by decide) k_11_102 rfl d_15_175_22 ?_
      obtain ⟨g6, hf⟩ := gif hf
      refine z0ge (tgt := 48) hx hb g6 d_15_175_25 (by decide) (fun h7 => ?_) (fun h7 => ?_)
      · replace hf := gpos hf h7
        exact b_M_chordAt_48 X hf hZ hS (lv_sub hl [] rfl)
      · replace hf := gneg hf h7
        refine lv_aload_n hx hb d_15_175_28 rfl (lv_at hl 1 rfl) ?_
        refine lv_iload_n hx hb d_15_175_29 rfl (lv_at hl 0 rfl) ?_
        refine zput (ci := 14) (C := RX14) (T := TX14) (k := 105) (v := l3) (w := .int (iI l3)) hx hb hts inW_14 tyX14 tyX14_ok nmX14 hown hK hZ hS (by decide) (by decide) rfl (by decide) k_11_103 rfl (fun G h => congrArg (fun q => Value.int (iI q)) h) rfl rfl d_15_175_30 (fun H8 locs8 hZ8 hS8 => ?_)
        refine lv_aload_n hx hb d_15_175_33 rfl (lv_at hl 1 rfl) ?_
        refine lv_aload_n hx hb d_15_175_34 rfl (lv_at hl 1 rfl) ?_
        refine lv_iload_n hx hb d_15_175_35 rfl (lv_at hl 0 rfl) ?_
        obtain ⟨r9, F9, B9, hc9, hf⟩ := gbind hf
        refine va_calli (va_runV (As := [.int (iI l3)]) (rest := [.ref (ad 14 0 0)]) ⟨hx, hb, hml, hown, hts⟩ (c_M_kindOn (l := l) hc9) (cwV 1 hts (gdV k_14_29 k_14_31 ks_191 k_1_9 k_14_32) rfl rfl rfl (by decide +kernel) ⟨Nat.le_of_ble_eq_true rfl, Nat.le_of_ble_eq_true rfl⟩) (zPV X hZ8 hS8 (ci := 14) (by decide) (by decide) (r := (RX14, TX14, 107)) rfl [.int (iI l3)]) rfl rfl hl.1 rfl (lv_room (Nat.le_of_ble_eq_true rfl)) d_15_175_36 ⟨Nat.le_of_ble_eq_true rfl, Nat.le_of_ble_eq_true rfl⟩) hS8 (fun q _ h => zAin X hS8 q h) (zAin X hS8) (fun p9 u9 t9 H9 locs9 ht9 hv9 hw9 hB9 hz9 hk9 hS9 => ?_)
        have hZ9 := zBack X ht9 hB9
        subst hw9
        refine zput (ci := 14) (C := RX14) (T := TX14) (k := 104) (v := r9) (w := .int (iI r9)) hx hb hts inW_14 tyX14 tyX14_ok nmX14 hown hK hZ9 hS9 (by decide) (by decide) rfl (by decide) k_11_102 rfl (fun G h => congrArg (fun q => Value.int (iI q)) h) rfl rfl d_15_175_39 (fun H10 locs10 hZ10 hS10 => ?_)
        refine lv_iinc (v := iI (l3 + 1)) (lv' := [(3, .int (iI (l3 + 1))), (0, .ref (ad 14 0 0))]) hx hb d_15_175_42 hl (k := 0) rfl (iI_add _ 1) (by decide) rfl (fun ls hl => ?_)
        refine lv_goto (tgt := 13) hx hb d_15_175_45 (by decide) ?_
        exact ih hf hZ10 hS10 (lv_sub hl [0, 1] rfl)

def f_M_chordAt (K : Nat) (l1 : Int) (l2 : Int) (F : zF) (B : zB) : zO := zbind (f_M_classesAt K l1 l2 F B) (fun r1 F1 B1 => f_M_chordAt_13 K K 0 (zup3 F1 14 0 104 (-1)) B1)
set_option maxHeartbeats 4000000 in
set_option maxRecDepth 100000 in
theorem c_M_chordAt {l : Launch} {D : va_G} {ca : Nat → ClassId} {ad : Nat → Int → Nat → Nat} {L : List Nat} {aS vS : Nat → Nat} {sz K : Nat} {l1 : Int} {l2 : Int} {F F9 : zF} {B B9 : zB} {r : Int} (hf : f_M_chordAt K l1 l2 F B = some (r, F9, B9)) : Met l ({ cls := "StaveHouseModel", name := "chordAt", desc := "(LStaveHouseModel$Piece;I)V" } : Jvm.MethodName) (Cond.code ({ cls := "StaveHouseModel", name := "chordAt", desc := "(LStaveHouseModel$Piece;I)V" } : Jvm.MethodName) prog_15_method_175_code 4 (Option.none : Option Jvm.ClassFile.FieldType) :: wAll) ({ frames := 4, cells := 0, slots := 0, locals := 92 } : Room) (va_Pc [.ref (ad 14 0 0), .ref (ad 13 l1 0), .int (iI l2)] (zPre D ca ad lnM nM L aS vS F B sz)) (Q_M_chordAt D ca ad L r F9 B9 (zA L sz)) 0 0 (zA L sz) := by
  refine zMet (Qc := Q_M_chordAt D ca ad L r F9 B9) (lv := [(0, .ref (ad 14 0 0)), (1, .ref (ad 13 l1 0)), (2, .int (iI l2))]) (by decide) (Nat.le_of_ble_eq_true rfl) rfl (fun A p e s m below meth c ls X hZ hS hl => ?_)
  obtain ⟨hx, hb, hr, hml, hown, hts, hlk, hK, hA, hL, hX⟩ := id X
  replace hf : (zbind (f_M_classesAt K l1 l2 F B) (fun r1 F1 B1 => f_M_chordAt_13 K K 0 (zup3 F1 14 0 104 (-1)) B1)) = some (r, F9, B9) := hf
  refine lv_aload_n hx hb d_15_175_0 rfl (lv_at hl 0 rfl) ?_
  refine lv_aload_n hx hb d_15_175_1 rfl (lv_at hl 1 rfl) ?_
  refine lv_iload_n hx hb d_15_175_2 rfl (lv_at hl 2 rfl) ?_
  obtain ⟨r1, F1, B1, hc1, hf⟩ := gbind hf
  refine va_callv (va_runV (As := [.ref (ad 13 l1 0), .int (iI l2)]) (rest := []) ⟨hx, hb, hml, hown, hts⟩ (c_M_classesAt (l := l) hc1) (cwV 2 hts (gdV k_14_21 k_14_23 ks_189 k_1_9 k_14_24) rfl rfl rfl (by decide +kernel) ⟨Nat.le_of_ble_eq_true rfl, Nat.le_of_ble_eq_true rfl⟩) (zPV X hZ hS (ci := 14) (by decide) (by decide) (r := (RX14, TX14, 107)) rfl [.ref (ad 13 l1 0), .int (iI l2)]) rfl rfl hl.1 rfl (lv_room (Nat.le_of_ble_eq_true rfl)) d_15_175_3 ⟨Nat.le_of_ble_eq_true rfl, Nat.le_of_ble_eq_true rfl⟩) hS (fun q _ h => zAin X hS q h) (zAin X hS) (fun u1 t1 H1 locs1 ht1 hv1 hw1 hB1 hz1 hk1 hS1 => ?_)
  have hZ1 := zBack X ht1 hB1
  refine lv_aload_n hx hb d_15_175_6 rfl (lv_at hl 0 rfl) ?_
  refine lv_iconst (v := iI (-1)) hx hb d_15_175_7 rfl ?_
  refine zput (ci := 14) (C := RX14) (T := TX14) (k := 104) (v := (-1)) (w := .int (iI (-1))) hx hb hts inW_14 tyX14 tyX14_ok nmX14 hown hK hZ1 hS1 (by decide) (by decide) rfl (by decide) k_11_102 rfl (fun G h => congrArg (fun q => Value.int (iI q)) h) rfl rfl d_15_175_8 (fun H2 locs2 hZ2 hS2 => ?_)
  refine lv_iconst (v := iI 0) hx hb d_15_175_11 rfl ?_
  refine lv_istore_n (lv' := [(3, .int (iI 0)), (0, .ref (ad 14 0 0)), (1, .ref (ad 13 l1 0)), (2, .int (iI l2))]) hx hb d_15_175_12 rfl hl (by decide) rfl (fun ls hl => ?_)
  exact b_M_chordAt_13 X hf hZ2 hS2 (lv_sub hl [0, 1] rfl)

abbrev Q_M_headKey (D : va_G) (ca : Nat → ClassId) (ad : Nat → Int → Nat → Nat) (L : List Nat) (r : Int) (F : zF) (B : zB) (A : Nat → Prop) : Array Value → State → Outcome → State → Prop := va_Qv (S := Unit) (fun _ => True) (fun _ => zPo D ca ad lnM nM L F B A) A
def f_M_headKey_140 (K : Nat)  (F : zF) (B : zB) : zO := some (0, F, B)
set_option maxHeartbeats 4000000 in
set_option maxRecDepth 100000 in
theorem b_M_headKey_140 {D : va_G} {ca : Nat → ClassId} {ad : Nat → Int → Nat → Nat} {L : List Nat} {aS vS : Nat → Nat} {A : Nat → Prop} {p : Program} {l : Launch} {e : Env} {s : State} {m : MethodId} {args : Array Value} {below : List Frame} {meth : Method} {c : Code} {K : Nat} {r : Int} {F9 : zF} {B9 : zB} (X : zX D ca L aS vS A p s m args meth c prog_15_method_42_code 3 (Option.none : Option Jvm.ClassFile.FieldType) "StaveHouseModel")  {F : zF} {B : zB} {H : Heap} {locs : List Loc} {ls : Array Slot} (hf : f_M_headKey_140 K  F B = some (r, F9, B9)) (hZ : zH D ca ad lnM nM L F B A H) (hS : va_S A s.heap H locs) (hl : lv_has ls 3 []) : W p l e ({ frames := 4, cells := 0, slots := 0, locals := 87 } : Room) s m args below meth c H locs 0 0 (MQ below (Q_M_headKey D ca ad L r F9 B9 A) args s 0 0 A) (F0 m 140 ls []) := by
  obtain ⟨hx, hb, hr, hml, hown, hts, hlk, hK, hA, hL, hX⟩ := id X
  replace hf : (some (0, F, B)) = some (r, F9, B9) := hf
  cases hf
  exact W.vret hx hb hr (fun t ht hW => ⟨⟨(), rfl, trivial, by rw [ht]; exact hZ, va_K.moved hW.alike hK⟩, hS.F ht⟩) hS.2.2 d_15_42_140 hlk

def f_M_headKey_123 (K : Nat)  (F : zF) (B : zB) : zO := f_M_headKey_140 K (zup3 F 14 0 16 ((F 14 0 16) + 1)) B
set_option maxHeartbeats 4000000 in
set_option maxRecDepth 100000 in
theorem b_M_headKey_123 {D : va_G} {ca : Nat → ClassId} {ad : Nat → Int → Nat → Nat} {L : List Nat} {aS vS : Nat → Nat} {A : Nat → Prop} {p : Program} {l : Launch} {e : Env} {s : State} {m : MethodId} {args : Array Value} {below : List Frame} {meth : Method} {c : Code} {K : Nat} {r : Int} {F9 : zF} {B9 : zB} (X : zX D ca L aS vS A p s m args meth c prog_15_method_42_code 3 (Option.none : Option Jvm.ClassFile.FieldType) "StaveHouseModel")  {F : zF} {B : zB} {H : Heap} {locs : List Loc} {ls : Array Slot} (hf : f_M_headKey_123 K  F B = some (r, F9, B9)) (hZ : zH D ca ad lnM nM L F B A H) (hS : va_S A s.heap H locs) (hl : lv_has ls 3 [(0, .ref (ad 14 0 0))]) : W p l e ({ frames := 4, cells := 0, slots := 0, locals := 87 } : Room) s m args below meth c H locs 0 0 (MQ below (Q_M_headKey D ca ad L r F9 B9 A) args s 0 0 A) (F0 m 123 ls []) := by
  obtain ⟨hx, hb, hr, hml, hown, hts, hlk, hK, hA, hL, hX⟩ := id X
  replace hf : (f_M_headKey_140 K (zup3 F 14 0 16 ((F 14 0 16) + 1)) B) = some (r, F9, B9) := hf
  refine lv_aload_n hx hb d_15_42_123 rfl (lv_at hl 0 rfl) ?_
  refine lv_dup hx hb d_15_42_124 rfl ?_
  refine zget (ci := 14) (C := RX14) (T := TX14) (v := .int (iI (F 14 0 16))) (k := 16) hx hb hts inW_14 hown hK hZ (by decide) (by decide) rfl (by decide) k_11_14 rfl d_15_42_125 ?_
  refine lv_iconst (v := iI 1) hx hb d_15_42_128 rfl ?_
  refine zadd hx hb d_15_42_129 ?_
  refine zput (ci := 14) (C := RX14) (T := TX14) (k := 16) (v := ((F 14 0 16) + 1)) (w := .int (iI ((F 14 0 16) + 1))) hx hb hts inW_14 tyX14 tyX14_ok nmX14 hown hK hZ hS (by decide) (by decide) rfl (by decide) k_11_14 rfl (fun G h => congrArg (fun q => Value.int (iI q)) h) rfl rfl d_15_42_130 (fun H32 locs32 hZ32 hS32 => ?_)
  refine lv_goto (tgt := 140) hx hb d_15_42_133 (by decide) ?_
  exact b_M_headKey_140 X hf hZ32 hS32 (lv_sub hl [] rfl)

def f_M_headKey_78 (K : Nat) (s0 : Int) (s1 : Int) (F : zF) (B : zB) : zO := if 0 ≤ s0 ∧ s0 < 3 then zbind (f_M_good K (zup3 F 13 s0 2 s1) B) (fun r18 F18 B18 => if r32 r18 then (if r18 = 0 then some (0, F18, B18) else zbind (f_M_isWord K 469920280434 F18 B18) (fun r21 F21 B21 => if 0 ≤ (F18 14 0 6) ∧ (F18 14 0 6) < 3 then if (r21 = 0 ∨ r21 = 1) then zbind (f_M_isWord K 469785800562 (zup3 F21 13 (F18 14 0 6) 3 r21) B21) (fun r25 F25 B25 => if r32 r25 then (if r25 = 0 then zbind (f_M_isWord K 469920280434 F25 B25) (fun r28 F28 B28 => if r32 r28 then (if r28 = 0 then zbind (f_M_wrong K F28 B28) (fun r31 F31 B31 => f_M_headKey_140 K F31 B31) else f_M_headKey_123 K F28 B28) else none) else f_M_headKey_123 K F25 B25) else none) else none else none)) else none) else none
set_option maxHeartbeats 4000000 in
set_option maxRecDepth 100000 in
theorem b_M_headKey_78 {D : va_G} {ca : Nat → ClassId} {ad : Nat → Int → Nat → Nat} {L : List Nat} {aS vS : Nat → Nat} {A : Nat → Prop} {p : Program} {l : Launch} {e : Env} {s : State} {m : MethodId} {args : Array Value} {below : List Frame} {meth : Method} {c : Code} {K : Nat} {r : Int} {F9 : zF} {B9 : zB} (X : zX D ca L aS vS A p s m args meth c prog_15_method_42_code 3 (Option.none : Option Jvm.ClassFile.FieldType) "StaveHouseModel") {s0 : Int} {s1 : Int} {F : zF} {B : zB} {H : Heap} {locs : List Loc} {ls : Array Slot} (hf : f_M_headKey_78 K s0 s1 F B = some (r, F9, B9)) (hZ : zH D ca ad lnM nM L F B A H) (hS : va_S A s.heap H locs) (hl : lv_has ls 3 [(0, .ref (ad 14 0 0))]) : W p l e ({ frames := 4, cells := 0, slots := 0, locals := 87 } : Room) s m args below meth c H locs 0 0 (MQ below (Q_M_headKey D ca ad L r F9 B9 A) args s 0 0 A) (F0 m 78 ls [.int (iI s1), va_rf (zrf ad 13 s0)]) := by
  obtain ⟨hx, hb, hr, hml, hown, hts, hlk, hK, hA, hL, hX⟩ := id X
  replace hf : (if 0 ≤ s0 ∧ s0 < 3 then zbind (f_M_good K (zup3 F 13 s0 2 s1) B) (fun r18 F18 B18 => if r32 r18 then (if r18 = 0 then some (0, F18, B18) else zbind (f_M_isWord K 469920280434 F18 B18) (fun r21 F21 B21 => if 0 ≤ (F18 14 0 6) ∧ (F18 14 0 6) < 3 then if (r21 = 0 ∨ r21 = 1) then zbind (f_M_isWord K 469785800562 (zup3 F21 13 (F18 14 0 6) 3 r21) B21) (fun r25 F25 B25 => if r32 r25 then (if r25 = 0 then zbind (f_M_isWord K 469920280434 F25 B25) (fun r28 F28 B28 => if r32 r28 then (if r28 = 0 then zbind (f_M_wrong K F28 B28) (fun r31 F31 B31 => f_M_headKey_140 K F31 B31) else f_M_headKey_123 K F28 B28) else none) else f_M_headKey_123 K F25 B25) else none) else none else none)) else none) else none) = some (r, F9, B9) := hf
  obtain ⟨g16, hf⟩ := gif hf
  refine W.eq (g2 := F0 m 78 ls [.int (iI s1), .ref (ad 13 s0 0)]) (by rw [zrf_pos (ad := ad) (t := 13) g16.1]; try rfl) ?_
  refine zput (ci := 13) (C := RX13) (T := TX13) (k := 2) (v := s1) (w := .int (iI s1)) hx hb hts inW_13 tyX13 tyX13_ok nmX13 hown hK hZ hS g16.1 g16.2 rfl (by decide) k_9_127 rfl (fun G h => congrArg (fun q => Value.int (iI q)) h) rfl rfl d_15_42_78 (fun H17 locs17 hZ17 hS17 => ?_)
  refine lv_aload_n hx hb d_15_42_81 rfl (lv_at hl 0 rfl) ?_
  obtain ⟨r18, F18, B18, hc18, hf⟩ := gbind hf
  refine va_calli (va_runV (As := []) (rest := []) ⟨hx, hb, hml, hown, hts⟩ (c_M_good (l := l) hc18) (cwV 0 hts (gdV k_13_15 k_13_17 ks_152 k_1_9 k_13_18) rfl rfl rfl (by decide +kernel) ⟨Nat.le_of_ble_eq_true rfl, Nat.le_of_ble_eq_true rfl⟩) (zPV X hZ17 hS17 (ci := 14) (by decide) (by decide) (r := (RX14, TX14, 107)) rfl []) rfl rfl hl.1 rfl (lv_room (Nat.le_of_ble_eq_true rfl)) d_15_42_82 ⟨Nat.le_of_ble_eq_true rfl, Nat.le_of_ble_eq_true rfl⟩) hS17 (fun q _ h => zAin X hS17 q h) (zAin X hS17) (fun p18 u18 t18 H18 locs18 ht18 hv18 hw18 hB18 hz18 hk18 hS18 => ?_)
  have hZ18 := zBack X ht18 hB18
  subst hw18
  obtain ⟨g19, hf⟩ := gif hf
  refine z0ne (tgt := 89) hx hb g19 d_15_42_85 (by decide) (fun h20 => ?_) (fun h20 => ?_)
  · replace hf := gneg hf h20
    refine lv_aload_n hx hb d_15_42_89 rfl (lv_at hl 0 rfl) ?_
    refine zget (ci := 14) (C := RX14) (T := TX14) (v := va_rf (zrf ad 13 (F18 14 0 6))) (k := 6) hx hb hts inW_14 hown hK hZ18 (by decide) (by decide) rfl (by decide) k_11_4 rfl d_15_42_90 ?_
    refine lv_aload_n hx hb d_15_42_93 rfl (lv_at hl 0 rfl) ?_
    refine va_gets hx hb (hX.2.2.2.1 _ (List.mem_of_getElem? (i := 3) rfl)) hS18 hown (hts _ k_10_211) (fun _ h => h) d_15_42_94 ?_
    refine W.eq (g2 := F0 m 97 ls [.long (lI 469920280434), .ref (ad 14 0 0), va_rf (zrf ad 13 (F18 14 0 6))]) rfl ?_
    obtain ⟨r21, F21, B21, hc21, hf⟩ := gbind hf
    refine va_calli (va_runV (As := [.long (lI 469920280434)]) (rest := [va_rf (zrf ad 13 (F18 14 0 6))]) ⟨hx, hb, hml, hown, hts⟩ (c_M_isWord (l := l) hc21) (cwV 1 hts (gdV k_14_112 k_14_114 ks_200 k_1_9 k_14_115) rfl rfl rfl (by decide +kernel) ⟨Nat.le_of_ble_eq_true rfl, Nat.le_of_ble_eq_true rfl⟩) (zPV X hZ18 hS18 (ci := 14) (by decide) (by decide) (r := (RX14, TX14, 107)) rfl [.long (lI 469920280434)]) rfl rfl hl.1 rfl (lv_room (Nat.le_of_ble_eq_true rfl)) d_15_42_97 ⟨Nat.le_of_ble_eq_true rfl, Nat.le_of_ble_eq_true rfl⟩) hS18 (fun q _ h => zAin X hS18 q h) (zAin X hS18) (fun p21 u21 t21 H21 locs21 ht21 hv21 hw21 hB21 hz21 hk21 hS21 => ?_)
    have hZ21 := zBack X ht21 hB21
    subst hw21
    obtain ⟨g22, hf⟩ := gif hf
    refine W.eq (g2 := F0 m 100 ls [.int (iI r21), .ref (ad 13 (F18 14 0 6) 0)]) (by rw [zrf_pos (ad := ad) (t := 13) g22.1]; try rfl) ?_
    obtain ⟨g23, hf⟩ := gif hf
    refine zput (ci := 13) (C := RX13) (T := TX13) (k := 3) (v := r21) (w := .int (iI r21)) hx hb hts inW_13 tyX13 tyX13_ok nmX13 hown hK hZ21 hS21 g22.1 g22.2 rfl (by decide) k_9_128 rfl (fun G h => congrArg (fun q => Value.int (iI q)) h) (zbool g23) rfl d_15_42_100 (fun H24 locs24 hZ24 hS24 => ?_)
    refine lv_aload_n hx hb d_15_42_103 rfl (lv_at hl 0 rfl) ?_
    refine va_gets hx hb (hX.2.2.2.1 _ (List.mem_of_getElem? (i := 2) rfl)) hS24 hown (hts _ k_10_209) (fun _ h => h) d_15_42_104 ?_
    refine W.eq (g2 := F0 m 107 ls [.long (lI 469785800562), .ref (ad 14 0 0)]) rfl ?_
    obtain ⟨r25, F25, B25, hc25, hf⟩ := gbind hf
    refine va_calli (va_runV (As := [.long (lI 469785800562)]) (rest := []) ⟨hx, hb, hml, hown, hts⟩ (c_M_isWord (l := l) hc25) (cwV 1 hts (gdV k_14_112 k_14_114 ks_200 k_1_9 k_14_115) rfl rfl rfl (by decide +kernel) ⟨Nat.le_of_ble_eq_true rfl, Nat.le_of_ble_eq_true rfl⟩) (zPV X hZ24 hS24 (ci := 14) (by decide) (by decide) (r := (RX14, TX14, 107)) rfl [.long (lI 469785800562)]) rfl rfl hl.1 rfl (lv_room (Nat.le_of_ble_eq_true rfl)) d_15_42_107 ⟨Nat.le_of_ble_eq_true rfl, Nat.le_of_ble_eq_true rfl⟩) hS24 (fun q _ h => zAin X hS24 q h) (zAin X hS24) (fun p25 u25 t25 H25 locs25 ht25 hv25 hw25 hB25 hz25 hk25 hS25 => ?_)
    have hZ25 := zBack X ht25 hB25
    subst hw25
    obtain ⟨g26, hf⟩ := gif hf
    refine z0ne (tgt := 123) hx hb g26 d_15_42_110 (by decide) (fun h27 => ?_) (fun h27 => ?_)
    · replace hf := gneg hf h27
      exact b_M_headKey_123 X hf hZ25 hS25 (lv_sub hl [0] rfl)
    · replace hf := gpos hf h27
      refine lv_aload_n hx hb d_15_42_113 rfl (lv_at hl 0 rfl) ?_
      refine va_gets hx hb (hX.2.2.2.1 _ (List.mem_of_getElem? (i := 3) rfl)) hS25 hown (hts _ k_10_211) (fun _ h => h) d_15_42_114 ?_
      refine W.eq (g2 := F0 m 117 ls [.long (lI 469920280434), .ref (ad 14 0 0)]) rfl ?_
      obtain ⟨r28, F28, B28, hc28, hf⟩ := gbind hf
      refine va_calli (va_runV (As := [.long (lI 469920280434)]) (rest := []) ⟨hx, hb, hml, hown, hts⟩ (c_M_isWord (l := l) hc28) (cwV 1 hts (gdV k_14_112 k_14_114 ks_200 k_1_9 k_14_115) rfl rfl rfl (by decide +kernel) ⟨Nat.le_of_ble_eq_true rfl, Nat.le_of_ble_eq_true rfl⟩) (zPV X hZ25 hS25 (ci := 14) (by decide) (by decide) (r := (RX14, TX14, 107)) rfl [.long (lI 469920280434)]) rfl rfl hl.1 rfl (lv_room (Nat.le_of_ble_eq_true rfl)) d_15_42_117 ⟨Nat.le_of_ble_eq_true rfl, Nat.le_of_ble_eq_true rfl⟩) hS25 (fun q _ h => zAin X hS25 q h) (zAin X hS25) (fun p28 u28 t28 H28 locs28 ht28 hv28 hw28 hB28 hz28 hk28 hS28 => ?_)
      have hZ28 := zBack X ht28 hB28
      subst hw28
      obtain ⟨g29, hf⟩ := gif hf
      refine z0eq (tgt := 136) hx hb g29 d_15_42_120 (by decide) (fun h30 => ?_) (fun h30 => ?_)
      · replace hf := gpos hf h30
        refine lv_aload_n hx hb d_15_42_136 rfl (lv_at hl 0 rfl) ?_
        obtain ⟨r31, F31, B31, hc31, hf⟩ := gbind hf
        refine va_callv (va_runV (As := []) (rest := []) ⟨hx, hb, hml, hown, hts⟩ (c_M_wrong (l := l) hc31) (cwV 0 hts (gdV k_14_124 k_14_126 ks_203 k_1_9 k_14_127) rfl rfl rfl (by decide +kernel) ⟨Nat.le_of_ble_eq_true rfl, Nat.le_of_ble_eq_true rfl⟩) (zPV X hZ28 hS28 (ci := 14) (by decide) (by decide) (r := (RX14, TX14, 107)) rfl []) rfl rfl hl.1 rfl (lv_room (Nat.le_of_ble_eq_true rfl)) d_15_42_137 ⟨Nat.le_of_ble_eq_true rfl, Nat.le_of_ble_eq_true rfl⟩) hS28 (fun q _ h => zAin X hS28 q h) (zAin X hS28) (fun u31 t31 H31 locs31 ht31 hv31 hw31 hB31 hz31 hk31 hS31 => ?_)
        have hZ31 := zBack X ht31 hB31
        exact b_M_headKey_140 X hf hZ31 hS31 (lv_sub hl [] rfl)
      · replace hf := gneg hf h30
        exact b_M_headKey_123 X hf hZ28 hS28 (lv_sub hl [0] rfl)
  · replace hf := gpos hf h20
    cases hf
    exact W.vret hx hb hr (fun t ht hW => ⟨⟨(), rfl, trivial, by rw [ht]; exact hZ18, va_K.moved hW.alike hK⟩, hS18.F ht⟩) hS18.2.2 d_15_42_88 hlk

def f_M_headKey_55 (K : Nat) (l1 : Int) (F : zF) (B : zB) : zO := zbind (f_M_number K 0 7 0 F B) (fun r13 F13 B13 => if r32 l1 then (if l1 = 0 then f_M_headKey_78 K (F13 14 0 6) r13 F13 B13 else f_M_headKey_78 K (F13 14 0 6) (-r13) F13 B13) else none)
set_option maxHeartbeats 4000000 in
set_option maxRecDepth 100000 in
theorem b_M_headKey_55 {D : va_G} {ca : Nat → ClassId} {ad : Nat → Int → Nat → Nat} {L : List Nat} {aS vS : Nat → Nat} {A : Nat → Prop} {p : Program} {l : Launch} {e : Env} {s : State} {m : MethodId} {args : Array Value} {below : List Frame} {meth : Method} {c : Code} {K : Nat} {r : Int} {F9 : zF} {B9 : zB} (X : zX D ca L aS vS A p s m args meth c prog_15_method_42_code 3 (Option.none : Option Jvm.ClassFile.FieldType) "StaveHouseModel") {l1 : Int} {F : zF} {B : zB} {H : Heap} {locs : List Loc} {ls : Array Slot} (hf : f_M_headKey_55 K l1 F B = some (r, F9, B9)) (hZ : zH D ca ad lnM nM L F B A H) (hS : va_S A s.heap H locs) (hl : lv_has ls 3 [(1, .int (iI l1)), (0, .ref (ad 14 0 0))]) : W p l e ({ frames := 4, cells := 0, slots := 0, locals := 87 } : Room) s m args below meth c H locs 0 0 (MQ below (Q_M_headKey D ca ad L r F9 B9 A) args s 0 0 A) (F0 m 55 ls []) := by
  obtain ⟨hx, hb, hr, hml, hown, hts, hlk, hK, hA, hL, hX⟩ := id X
  replace hf : (zbind (f_M_number K 0 7 0 F B) (fun r13 F13 B13 => if r32 l1 then (if l1 = 0 then f_M_headKey_78 K (F13 14 0 6) r13 F13 B13 else f_M_headKey_78 K (F13 14 0 6) (-r13) F13 B13) else none)) = some (r, F9, B9) := hf
  refine lv_aload_n hx hb d_15_42_55 rfl (lv_at hl 1 rfl) ?_
  refine lv_iconst (v := iI 0) hx hb d_15_42_56 rfl ?_
  refine lv_bipush (v := iI 7) hx hb d_15_42_57 (by decide) ?_
  refine lv_iconst (v := iI 0) hx hb d_15_42_59 rfl ?_
  obtain ⟨r13, F13, B13, hc13, hf⟩ := gbind hf
  refine va_calli (va_runV (As := [.int (iI 0), .int (iI 7), .int (iI 0)]) (rest := []) ⟨hx, hb, hml, hown, hts⟩ (c_M_number (l := l) hc13) (cwV 3 hts (gdV k_14_140 k_14_142 ks_207 k_1_9 k_14_143) rfl rfl rfl (by decide +kernel) ⟨Nat.le_of_ble_eq_true rfl, Nat.le_of_ble_eq_true rfl⟩) (zPV X hZ hS (ci := 14) (by decide) (by decide) (r := (RX14, TX14, 107)) rfl [.int (iI 0), .int (iI 7), .int (iI 0)]) rfl rfl hl.1 rfl (lv_room (Nat.le_of_ble_eq_true rfl)) d_15_42_60 ⟨Nat.le_of_ble_eq_true rfl, Nat.le_of_ble_eq_true rfl⟩) hS (fun q _ h => zAin X hS q h) (zAin X hS) (fun p13 u13 t13 H13 locs13 ht13 hv13 hw13 hB13 hz13 hk13 hS13 => ?_)
  have hZ13 := zBack X ht13 hB13
  subst hw13
  refine lv_istore_n (lv' := [(2, .int (iI r13)), (1, .int (iI l1)), (0, .ref (ad 14 0 0))]) hx hb d_15_42_63 rfl hl (by decide) rfl (fun ls hl => ?_)
  refine lv_aload_n hx hb d_15_42_64 rfl (lv_at hl 2 rfl) ?_
  refine zget (ci := 14) (C := RX14) (T := TX14) (v := va_rf (zrf ad 13 (F13 14 0 6))) (k := 6) hx hb hts inW_14 hown hK hZ13 (by decide) (by decide) rfl (by decide) k_11_4 rfl d_15_42_65 ?_
  refine lv_iload_n hx hb d_15_42_68 rfl (lv_at hl 1 rfl) ?_
  obtain ⟨g14, hf⟩ := gif hf
  refine z0eq (tgt := 77) hx hb g14 d_15_42_69 (by decide) (fun h15 => ?_) (fun h15 => ?_)
  · replace hf := gpos hf h15
    refine lv_iload_n hx hb d_15_42_77 rfl (lv_at hl 0 rfl) ?_
    exact b_M_headKey_78 X hf hZ13 hS13 (lv_sub hl [2] rfl)
  · replace hf := gneg hf h15
    refine lv_iload_n hx hb d_15_42_72 rfl (lv_at hl 0 rfl) ?_
    refine zneg hx hb d_15_42_73 ?_
    refine lv_goto (tgt := 78) hx hb d_15_42_74 (by decide) ?_
    exact b_M_headKey_78 X hf hZ13 hS13 (lv_sub hl [2] rfl)

def f_M_headKey_11 (K : Nat)  (F : zF) (B : zB) : zO := zbind (f_M_good K (zup3 (zup3 F 14 0 22 1) 14 0 16 ((F 14 0 16) + 1)) B) (fun r6 F6 B6 => if r32 r6 then (if r6 = 0 then some (0, F6, B6) else zbind (f_M_isSign K 45 F6 B6) (fun r9 F9 B9 => if r32 r9 then (if r9 = 0 then f_M_headKey_55 K r9 F9 B9 else f_M_headKey_55 K r9 (zup3 F9 14 0 16 ((F9 14 0 16) + 1)) B9) else none)) else none)
set_option maxHeartbeats 4000000 in
set_option maxRecDepth 100000 in
theorem b_M_headKey_11 {D : va_G} {ca : Nat → ClassId} {ad : Nat → Int → Nat → Nat} {L : List Nat} {aS vS : Nat → Nat} {A : Nat → Prop} {p : Program} {l : Launch} {e : Env} {s : State} {m : MethodId} {args : Array Value} {below : List Frame} {meth : Method} {c : Code} {K : Nat} {r : Int} {F9 : zF} {B9 : zB} (X : zX D ca L aS vS A p s m args meth c prog_15_method_42_code 3 (Option.none : Option Jvm.ClassFile.FieldType) "StaveHouseModel")  {F : zF} {B : zB} {H : Heap} {locs : List Loc} {ls : Array Slot} (hf : f_M_headKey_11 K  F B = some (r, F9, B9)) (hZ : zH D ca ad lnM nM L F B A H) (hS : va_S A s.heap H locs) (hl : lv_has ls 3 [(0, .ref (ad 14 0 0))]) : W p l e ({ frames := 4, cells := 0, slots := 0, locals := 87 } : Room) s m args below meth c H locs 0 0 (MQ below (Q_M_headKey D ca ad L r F9 B9 A) args s 0 0 A) (F0 m 11 ls []) := by
  obtain ⟨hx, hb, hr, hml, hown, hts, hlk, hK, hA, hL, hX⟩ := id X
  replace hf : (zbind (f_M_good K (zup3 (zup3 F 14 0 22 1) 14 0 16 ((F 14 0 16) + 1)) B) (fun r6 F6 B6 => if r32 r6 then (if r6 = 0 then some (0, F6, B6) else zbind (f_M_isSign K 45 F6 B6) (fun r9 F9 B9 => if r32 r9 then (if r9 = 0 then f_M_headKey_55 K r9 F9 B9 else f_M_headKey_55 K r9 (zup3 F9 14 0 16 ((F9 14 0 16) + 1)) B9) else none)) else none)) = some (r, F9, B9) := hf
  refine lv_aload_n hx hb d_15_42_11 rfl (lv_at hl 0 rfl) ?_
  refine lv_iconst (v := iI 1) hx hb d_15_42_12 rfl ?_
  refine zput (ci := 14) (C := RX14) (T := TX14) (k := 22) (v := 1) (w := .int (iI 1)) hx hb hts inW_14 tyX14 tyX14_ok nmX14 hown hK hZ hS (by decide) (by decide) rfl (by decide) k_11_20 rfl (fun G h => congrArg (fun q => Value.int (iI q)) h) rfl rfl d_15_42_13 (fun H4 locs4 hZ4 hS4 => ?_)
  refine lv_aload_n hx hb d_15_42_16 rfl (lv_at hl 0 rfl) ?_
  refine lv_dup hx hb d_15_42_17 rfl ?_
  refine zget (ci := 14) (C := RX14) (T := TX14) (v := .int (iI (F 14 0 16))) (k := 16) hx hb hts inW_14 hown hK hZ4 (by decide) (by decide) rfl (by decide) k_11_14 rfl d_15_42_18 ?_
  refine lv_iconst (v := iI 1) hx hb d_15_42_21 rfl ?_
  refine zadd hx hb d_15_42_22 ?_
  refine zput (ci := 14) (C := RX14) (T := TX14) (k := 16) (v := ((F 14 0 16) + 1)) (w := .int (iI ((F 14 0 16) + 1))) hx hb hts inW_14 tyX14 tyX14_ok nmX14 hown hK hZ4 hS4 (by decide) (by decide) rfl (by decide) k_11_14 rfl (fun G h => congrArg (fun q => Value.int (iI q)) h) rfl rfl d_15_42_23 (fun H5 locs5 hZ5 hS5 => ?_)
  refine lv_aload_n hx hb d_15_42_26 rfl (lv_at hl 0 rfl) ?_
  obtain ⟨r6, F6, B6, hc6, hf⟩ := gbind hf
  refine va_calli (va_runV (As := []) (rest := []) ⟨hx, hb, hml, hown, hts⟩ (c_M_good (l := l) hc6) (cwV 0 hts (gdV k_13_15 k_13_17 ks_152 k_1_9 k_13_18) rfl rfl rfl (by decide +kernel) ⟨Nat.le_of_ble_eq_true rfl, Nat.le_of_ble_eq_true rfl⟩) (zPV X hZ5 hS5 (ci := 14) (by decide) (by decide) (r := (RX14, TX14, 107)) rfl []) rfl rfl hl.1 rfl (lv_room (Nat.le_of_ble_eq_true rfl)) d_15_42_27 ⟨Nat.le_of_ble_eq_true rfl, Nat.le_of_ble_eq_true rfl⟩) hS5 (fun q _ h => zAin X hS5 q h) (zAin X hS5) (fun p6 u6 t6 H6 locs6 ht6 hv6 hw6 hB6 hz6 hk6 hS6 => ?_)
  have hZ6 := zBack X ht6 hB6
  subst hw6
  obtain ⟨g7, hf⟩ := gif hf
  refine z0ne (tgt := 34) hx hb g7 d_15_42_30 (by decide) (fun h8 => ?_) (fun h8 => ?_)
  · replace hf := gneg hf h8
    refine lv_aload_n hx hb d_15_42_34 rfl (lv_at hl 0 rfl) ?_
    refine lv_bipush (v := iI 45) hx hb d_15_42_35 (by decide) ?_
    obtain ⟨r9, F9, B9, hc9, hf⟩ := gbind hf
    refine va_calli (va_runV (As := [.int (iI 45)]) (rest := []) ⟨hx, hb, hml, hown, hts⟩ (c_M_isSign (l := l) hc9) (cwV 1 hts (gdV k_14_136 k_14_138 ks_206 k_1_9 k_14_139) rfl rfl rfl (by decide +kernel) ⟨Nat.le_of_ble_eq_true rfl, Nat.le_of_ble_eq_true rfl⟩) (zPV X hZ6 hS6 (ci := 14) (by decide) (by decide) (r := (RX14, TX14, 107)) rfl [.int (iI 45)]) rfl rfl hl.1 rfl (lv_room (Nat.le_of_ble_eq_true rfl)) d_15_42_37 ⟨Nat.le_of_ble_eq_true rfl, Nat.le_of_ble_eq_true rfl⟩) hS6 (fun q _ h => zAin X hS6 q h) (zAin X hS6) (fun p9 u9 t9 H9 locs9 ht9 hv9 hw9 hB9 hz9 hk9 hS9 => ?_)
    have hZ9 := zBack X ht9 hB9
    subst hw9
    refine lv_istore_n (lv' := [(1, .int (iI r9)), (0, .ref (ad 14 0 0))]) hx hb d_15_42_40 rfl hl (by decide) rfl (fun ls hl => ?_)
    refine lv_iload_n hx hb d_15_42_41 rfl (lv_at hl 0 rfl) ?_
    obtain ⟨g10, hf⟩ := gif hf
    refine z0eq (tgt := 55) hx hb g10 d_15_42_42 (by decide) (fun h11 => ?_) (fun h11 => ?_)
    · replace hf := gpos hf h11
      exact b_M_headKey_55 X hf hZ9 hS9 (lv_sub hl [0, 1] rfl)
    · replace hf := gneg hf h11
      refine lv_aload_n hx hb d_15_42_45 rfl (lv_at hl 1 rfl) ?_
      refine lv_dup hx hb d_15_42_46 rfl ?_
      refine zget (ci := 14) (C := RX14) (T := TX14) (v := .int (iI (F9 14 0 16))) (k := 16) hx hb hts inW_14 hown hK hZ9 (by decide) (by decide) rfl (by decide) k_11_14 rfl d_15_42_47 ?_
      refine lv_iconst (v := iI 1) hx hb d_15_42_50 rfl ?_
      refine zadd hx hb d_15_42_51 ?_
      refine zput (ci := 14) (C := RX14) (T := TX14) (k := 16) (v := ((F9 14 0 16) + 1)) (w := .int (iI ((F9 14 0 16) + 1))) hx hb hts inW_14 tyX14 tyX14_ok nmX14 hown hK hZ9 hS9 (by decide) (by decide) rfl (by decide) k_11_14 rfl (fun G h => congrArg (fun q => Value.int (iI q)) h) rfl rfl d_15_42_52 (fun H12 locs12 hZ12 hS12 => ?_)
      exact b_M_headKey_55 X hf hZ12 hS12 (lv_sub hl [0, 1] rfl)
  · replace hf := gpos hf h8
    cases hf
    exact W.vret hx hb hr (fun t ht hW => ⟨⟨(), rfl, trivial, by rw [ht]; exact hZ6, va_K.moved hW.alike hK⟩, hS6.F ht⟩) hS6.2.2 d_15_42_33 hlk

def f_M_headKey (K : Nat)  (F : zF) (B : zB) : zO := if r32 (F 14 0 22) then (if (F 14 0 22) = 0 then f_M_headKey_11 K F B else zbind (f_M_wrong K F B) (fun r3 F3 B3 => f_M_headKey_11 K F3 B3)) else none
set_option maxHeartbeats 4000000 in
set_option maxRecDepth 100000 in
theorem c_M_headKey {l : Launch} {D : va_G} {ca : Nat → ClassId} {ad : Nat → Int → Nat → Nat} {L : List Nat} {aS vS : Nat → Nat} {sz K : Nat}  {F F9 : zF} {B B9 : zB} {r : Int} (hf : f_M_headKey K  F B = some (r, F9, B9)) : Met l ({ cls := "StaveHouseModel", name := "headKey", desc := "()V" } : Jvm.MethodName) (Cond.code ({ cls := "StaveHouseModel", name := "headKey", desc := "()V" } : Jvm.MethodName) prog_15_method_42_code 3 (Option.none : Option Jvm.ClassFile.FieldType) :: wAll) ({ frames := 4, cells := 0, slots := 0, locals := 87 } : Room) (va_Pc [.ref (ad 14 0 0)] (zPre D ca ad lnM nM L aS vS F B sz)) (Q_M_headKey D ca ad L r F9 B9 (zA L sz)) 0 0 (zA L sz) := by
  refine zMet (Qc := Q_M_headKey D ca ad L r F9 B9) (lv := [(0, .ref (ad 14 0 0))]) (by decide) (Nat.le_of_ble_eq_true rfl) rfl (fun A p e s m below meth c ls X hZ hS hl => ?_)
  obtain ⟨hx, hb, hr, hml, hown, hts, hlk, hK, hA, hL, hX⟩ := id X
  replace hf : (if r32 (F 14 0 22) then (if (F 14 0 22) = 0 then f_M_headKey_11 K F B else zbind (f_M_wrong K F B) (fun r3 F3 B3 => f_M_headKey_11 K F3 B3)) else none) = some (r, F9, B9) := hf
  refine lv_aload_n hx hb d_15_42_0 rfl (lv_at hl 0 rfl) ?_
  refine zget (ci := 14) (C := RX14) (T := TX14) (v := .int (iI (F 14 0 22))) (k := 22) hx hb hts inW_14 hown hK hZ (by decide) (by decide) rfl (by decide) k_11_20 rfl d_15_42_1 ?_
  obtain ⟨g1, hf⟩ := gif hf
  refine z0eq (tgt := 11) hx hb g1 d_15_42_4 (by decide) (fun h2 => ?_) (fun h2 => ?_)
  · replace hf := gpos hf h2
    exact b_M_headKey_11 X hf hZ hS (lv_sub hl [0] rfl)
  · replace hf := gneg hf h2
    refine lv_aload_n hx hb d_15_42_7 rfl (lv_at hl 0 rfl) ?_
    obtain ⟨r3, F3, B3, hc3, hf⟩ := gbind hf
    refine va_callv (va_runV (As := []) (rest := []) ⟨hx, hb, hml, hown, hts⟩ (c_M_wrong (l := l) hc3) (cwV 0 hts (gdV k_14_124 k_14_126 ks_203 k_1_9 k_14_127) rfl rfl rfl (by decide +kernel) ⟨Nat.le_of_ble_eq_true rfl, Nat.le_of_ble_eq_true rfl⟩) (zPV X hZ hS (ci := 14) (by decide) (by decide) (r := (RX14, TX14, 107)) rfl []) rfl rfl hl.1 rfl (lv_room (Nat.le_of_ble_eq_true rfl)) d_15_42_8 ⟨Nat.le_of_ble_eq_true rfl, Nat.le_of_ble_eq_true rfl⟩) hS (fun q _ h => zAin X hS q h) (zAin X hS) (fun u3 t3 H3 locs3 ht3 hv3 hw3 hB3 hz3 hk3 hS3 => ?_)
    have hZ3 := zBack X ht3 hB3
    exact b_M_headKey_11 X hf hZ3 hS3 (lv_sub hl [0] rfl)

abbrev Q_M_between_0 (D : va_G) (ca : Nat → ClassId) (ad : Nat → Int → Nat → Nat) (L : List Nat) (r : Int) (F : zF) (B : zB) (A : Nat → Prop) : Array Value → State → Outcome → State → Prop := va_Qv (S := Unit) (fun _ => True) (fun _ => zPo D ca ad lnM nM L F B A) A
def f_M_between_0_127 (rec7 : Int → Int → zF → zB → zO) (rec17 : Int → Int → Int → zF → zB → zO) (rec26 : Int → Int → Int → Int → zF → zB → zO) (K : Nat) (l4 : Int) (l3 : Int) (l2 : Int) (l1 : Int) (F : zF) (B : zB) : zO := rec26 (l4 + 1) l3 l2 l1 F B
set_option maxHeartbeats 4000000 in
set_option maxRecDepth 100000 in
theorem b_M_between_0_127 {D : va_G} {ca : Nat → ClassId} {ad : Nat → Int → Nat → Nat} {L : List Nat} {aS vS : Nat → Nat} {A : Nat → Prop} {p : Program} {l : Launch} {e : Env} {s : State} {m : MethodId} {args : Array Value} {below : List Frame} {meth : Method} {c : Code} {K : Nat} {r : Int} {F9 : zF} {B9 : zB} (X : zX D ca L aS vS A p s m args meth c prog_15_method_186_code 6 (Option.none : Option Jvm.ClassFile.FieldType) "StaveHouseModel") {rec7 : Int → Int → zF → zB → zO} {rec17 : Int → Int → Int → zF → zB → zO} {rec26 : Int → Int → Int → Int → zF → zB → zO} (hrec7 : ∀ {l2 : Int} {l1 : Int} {F : zF} {B : zB} {H : Heap} {locs : List Loc} {ls : Array Slot}, rec7 l2 l1 F B = some (r, F9, B9) → zH D ca ad lnM nM L F B A H → va_S A s.heap H locs → lv_has ls 6 [(2, .int (iI l2)), (1, .ref (ad 13 l1 0))] → W p l e ({ frames := 4, cells := 0, slots := 0, locals := 105 } : Room) s m args below meth c H locs 0 0 (MQ below (Q_M_between_0 D ca ad L r F9 B9 A) args s 0 0 A) (F0 m 7 ls [])) (hrec17 : ∀ {l3 : Int} {l2 : Int} {l1 : Int} {F : zF} {B : zB} {H : Heap} {locs : List Loc} {ls : Array Slot}, rec17 l3 l2 l1 F B = some (r, F9, B9) → zH D ca ad lnM nM L F B A H → va_S A s.heap H locs → lv_has ls 6 [(3, .int (iI l3)), (2, .int (iI l2)), (1, .ref (ad 13 l1 0))] → W p l e ({ frames := 4, cells := 0, slots := 0, locals := 105 } : Room) s m args below meth c H locs 0 0 (MQ below (Q_M_between_0 D ca ad L r F9 B9 A) args s 0 0 A) (F0 m 17 ls [])) (hrec26 : ∀ {l4 : Int} {l3 : Int} {l2 : Int} {l1 : Int} {F : zF} {B : zB} {H : Heap} {locs : List Loc} {ls : Array Slot}, rec26 l4 l3 l2 l1 F B = some (r, F9, B9) → zH D ca ad lnM nM L F B A H → va_S A s.heap H locs → lv_has ls 6 [(4, .int (iI l4)), (3, .int (iI l3)), (2, .int (iI l2)), (1, .ref (ad 13 l1 0))] → W p l e ({ frames := 4, cells := 0, slots := 0, locals := 105 } : Room) s m args below meth c H locs 0 0 (MQ below (Q_M_between_0 D ca ad L r F9 B9 A) args s 0 0 A) (F0 m 26 ls [])) {l4 : Int} {l3 : Int} {l2 : Int} {l1 : Int} {F : zF} {B : zB} {H : Heap} {locs : List Loc} {ls : Array Slot} (hf : f_M_between_0_127 rec7 rec17 rec26 K l4 l3 l2 l1 F B = some (r, F9, B9)) (hZ : zH D ca ad lnM nM L F B A H) (hS : va_S A s.heap H locs) (hl : lv_has ls 6 [(4, .int (iI l4)), (3, .int (iI l3)), (2, .int (iI l2)), (1, .ref (ad 13 l1 0))]) : W p l e ({ frames := 4, cells := 0, slots := 0, locals := 105 } : Room) s m args below meth c H locs 0 0 (MQ below (Q_M_between_0 D ca ad L r F9 B9 A) args s 0 0 A) (F0 m 127 ls []) := by
  obtain ⟨hx, hb, hr, hml, hown, hts, hlk, hK, hA, hL, hX⟩ := id X
  replace hf : (rec26 (l4 + 1) l3 l2 l1 F B) = some (r, F9, B9) := hf
  refine lv_iinc (v := iI (l4 + 1)) (lv' := [(4, .int (iI (l4 + 1))), (3, .int (iI l3)), (2, .int (iI l2)), (1, .ref (ad 13 l1 0))]) hx hb d_15_186_127 hl (k := 0) rfl (iI_add _ 1) (by decide) rfl (fun ls hl => ?_)
  refine lv_goto (tgt := 26) hx hb d_15_186_130 (by decide) ?_
  exact hrec26 hf hZ hS (lv_sub hl [0, 1, 2, 3] rfl)

def f_M_between_0_121 (rec7 : Int → Int → zF → zB → zO) (rec17 : Int → Int → Int → zF → zB → zO) (rec26 : Int → Int → Int → Int → zF → zB → zO) (rec69 : Int → Int → Int → Int → Int → zF → zB → zO) (K : Nat) (l5 : Int) (l4 : Int) (l3 : Int) (l2 : Int) (l1 : Int) (F : zF) (B : zB) : zO := rec69 (l5 + 1) l4 l3 l2 l1 F B
set_option maxHeartbeats 4000000 in
set_option maxRecDepth 100000 in
theorem b_M_between_0_121 {D : va_G} {ca : Nat → ClassId} {ad : Nat → Int → Nat → Nat} {L : List Nat} {aS vS : Nat → Nat} {A : Nat → Prop} {p : Program} {l : Launch} {e : Env} {s : State} {m : MethodId} {args : Array Value} {below : List Frame} {meth : Method} {c : Code} {K : Nat} {r : Int} {F9 : zF} {B9 : zB} (X : zX D ca L aS vS A p s m args meth c prog_15_method_186_code 6 (Option.none : Option Jvm.ClassFile.FieldType) "StaveHouseModel") {rec7 : Int → Int → zF → zB → zO} {rec17 : Int → Int → Int → zF → zB → zO} {rec26 : Int → Int → Int → Int → zF → zB → zO} {rec69 : Int → Int → Int → Int → Int → zF → zB → zO} (hrec7 : ∀ {l2 : Int} {l1 : Int} {F : zF} {B : zB} {H : Heap} {locs : List Loc} {ls : Array Slot}, rec7 l2 l1 F B = some (r, F9, B9) → zH D ca ad lnM nM L F B A H → va_S A s.heap H locs → lv_has ls 6 [(2, .int (iI l2)), (1, .ref (ad 13 l1 0))] → W p l e ({ frames := 4, cells := 0, slots := 0, locals := 105 } : Room) s m args below meth c H locs 0 0 (MQ below (Q_M_between_0 D ca ad L r F9 B9 A) args s 0 0 A) (F0 m 7 ls [])) (hrec17 : ∀ {l3 : Int} {l2 : Int} {l1 : Int} {F : zF} {B : zB} {H : Heap} {locs : List Loc} {ls : Array Slot}, rec17 l3 l2 l1 F B = some (r, F9, B9) → zH D ca ad lnM nM L F B A H → va_S A s.heap H locs → lv_has ls 6 [(3, .int (iI l3)), (2, .int (iI l2)), (1, .ref (ad 13 l1 0))] → W p l e ({ frames := 4, cells := 0, slots := 0, locals := 105 } : Room) s m args below meth c H locs 0 0 (MQ below (Q_M_between_0 D ca ad L r F9 B9 A) args s 0 0 A) (F0 m 17 ls [])) (hrec26 : ∀ {l4 : Int} {l3 : Int} {l2 : Int} {l1 : Int} {F : zF} {B : zB} {H : Heap} {locs : List Loc} {ls : Array Slot}, rec26 l4 l3 l2 l1 F B = some (r, F9, B9) → zH D ca ad lnM nM L F B A H → va_S A s.heap H locs → lv_has ls 6 [(4, .int (iI l4)), (3, .int (iI l3)), (2, .int (iI l2)), (1, .ref (ad 13 l1 0))] → W p l e ({ frames := 4, cells := 0, slots := 0, locals := 105 } : Room) s m args below meth c H locs 0 0 (MQ below (Q_M_between_0 D ca ad L r F9 B9 A) args s 0 0 A) (F0 m 26 ls [])) (hrec69 : ∀ {l5 : Int} {l4 : Int} {l3 : Int} {l2 : Int} {l1 : Int} {F : zF} {B : zB} {H : Heap} {locs : List Loc} {ls : Array Slot}, rec69 l5 l4 l3 l2 l1 F B = some (r, F9, B9) → zH D ca ad lnM nM L F B A H → va_S A s.heap H locs → lv_has ls 6 [(5, .int (iI l5)), (4, .int (iI l4)), (3, .int (iI l3)), (2, .int (iI l2)), (1, .ref (ad 13 l1 0))] → W p l e ({ frames := 4, cells := 0, slots := 0, locals := 105 } : Room) s m args below meth c H locs 0 0 (MQ below (Q_M_between_0 D ca ad L r F9 B9 A) args s 0 0 A) (F0 m 69 ls [])) {l5 : Int} {l4 : Int} {l3 : Int} {l2 : Int} {l1 : Int} {F : zF} {B : zB} {H : Heap} {locs : List Loc} {ls : Array Slot} (hf : f_M_between_0_121 rec7 rec17 rec26 rec69 K l5 l4 l3 l2 l1 F B = some (r, F9, B9)) (hZ : zH D ca ad lnM nM L F B A H) (hS : va_S A s.heap H locs) (hl : lv_has ls 6 [(5, .int (iI l5)), (4, .int (iI l4)), (3, .int (iI l3)), (2, .int (iI l2)), (1, .ref (ad 13 l1 0))]) : W p l e ({ frames := 4, cells := 0, slots := 0, locals := 105 } : Room) s m args below meth c H locs 0 0 (MQ below (Q_M_between_0 D ca ad L r F9 B9 A) args s 0 0 A) (F0 m 121 ls []) := by
  obtain ⟨hx, hb, hr, hml, hown, hts, hlk, hK, hA, hL, hX⟩ := id X
  replace hf : (rec69 (l5 + 1) l4 l3 l2 l1 F B) = some (r, F9, B9) := hf
  refine lv_iinc (v := iI (l5 + 1)) (lv' := [(5, .int (iI (l5 + 1))), (4, .int (iI l4)), (3, .int (iI l3)), (2, .int (iI l2)), (1, .ref (ad 13 l1 0))]) hx hb d_15_186_121 hl (k := 0) rfl (iI_add _ 1) (by decide) rfl (fun ls hl => ?_)
  refine lv_goto (tgt := 69) hx hb d_15_186_124 (by decide) ?_
  exact hrec69 hf hZ hS (lv_sub hl [0, 1, 2, 3, 4] rfl)

def f_M_between_0_111 (rec7 : Int → Int → zF → zB → zO) (rec17 : Int → Int → Int → zF → zB → zO) (rec26 : Int → Int → Int → Int → zF → zB → zO) (rec69 : Int → Int → Int → Int → Int → zF → zB → zO) (K : Nat) (l5 : Int) (l4 : Int) (l3 : Int) (l2 : Int) (l1 : Int) (F : zF) (B : zB) : zO := zbind (f_M_fault_1 K l1 l2 l3 l4 l5 F B) (fun r31 F31 B31 => f_M_between_0_121 rec7 rec17 rec26 rec69 K l5 l4 l3 l2 l1 F31 B31)
set_option maxHeartbeats 4000000 in
set_option maxRecDepth 100000 in
theorem b_M_between_0_111 {D : va_G} {ca : Nat → ClassId} {ad : Nat → Int → Nat → Nat} {L : List Nat} {aS vS : Nat → Nat} {A : Nat → Prop} {p : Program} {l : Launch} {e : Env} {s : State} {m : MethodId} {args : Array Value} {below : List Frame} {meth : Method} {c : Code} {K : Nat} {r : Int} {F9 : zF} {B9 : zB} (X : zX D ca L aS vS A p s m args meth c prog_15_method_186_code 6 (Option.none : Option Jvm.ClassFile.FieldType) "StaveHouseModel") {rec7 : Int → Int → zF → zB → zO} {rec17 : Int → Int → Int → zF → zB → zO} {rec26 : Int → Int → Int → Int → zF → zB → zO} {rec69 : Int → Int → Int → Int → Int → zF → zB → zO} (hrec7 : ∀ {l2 : Int} {l1 : Int} {F : zF} {B : zB} {H : Heap} {locs : List Loc} {ls : Array Slot}, rec7 l2 l1 F B = some (r, F9, B9) → zH D ca ad lnM nM L F B A H → va_S A s.heap H locs → lv_has ls 6 [(2, .int (iI l2)), (1, .ref (ad 13 l1 0))] → W p l e ({ frames := 4, cells := 0, slots := 0, locals := 105 } : Room) s m args below meth c H locs 0 0 (MQ below (Q_M_between_0 D ca ad L r F9 B9 A) args s 0 0 A) (F0 m 7 ls [])) (hrec17 : ∀ {l3 : Int} {l2 : Int} {l1 : Int} {F : zF} {B : zB} {H : Heap} {locs : List Loc} {ls : Array Slot}, rec17 l3 l2 l1 F B = some (r, F9, B9) → zH D ca ad lnM nM L F B A H → va_S A s.heap H locs → lv_has ls 6 [(3, .int (iI l3)), (2, .int (iI l2)), (1, .ref (ad 13 l1 0))] → W p l e ({ frames := 4, cells := 0, slots := 0, locals := 105 } : Room) s m args below meth c H locs 0 0 (MQ below (Q_M_between_0 D ca ad L r F9 B9 A) args s 0 0 A) (F0 m 17 ls [])) (hrec26 : ∀ {l4 : Int} {l3 : Int} {l2 : Int} {l1 : Int} {F : zF} {B : zB} {H : Heap} {locs : List Loc} {ls : Array Slot}, rec26 l4 l3 l2 l1 F B = some (r, F9, B9) → zH D ca ad lnM nM L F B A H → va_S A s.heap H locs → lv_has ls 6 [(4, .int (iI l4)), (3, .int (iI l3)), (2, .int (iI l2)), (1, .ref (ad 13 l1 0))] → W p l e ({ frames := 4, cells := 0, slots := 0, locals := 105 } : Room) s m args below meth c H locs 0 0 (MQ below (Q_M_between_0 D ca ad L r F9 B9 A) args s 0 0 A) (F0 m 26 ls [])) (hrec69 : ∀ {l5 : Int} {l4 : Int} {l3 : Int} {l2 : Int} {l1 : Int} {F : zF} {B : zB} {H : Heap} {locs : List Loc} {ls : Array Slot}, rec69 l5 l4 l3 l2 l1 F B = some (r, F9, B9) → zH D ca ad lnM nM L F B A H → va_S A s.heap H locs → lv_has ls 6 [(5, .int (iI l5)), (4, .int (iI l4)), (3, .int (iI l3)), (2, .int (iI l2)), (1, .ref (ad 13 l1 0))] → W p l e ({ frames := 4, cells := 0, slots := 0, locals := 105 } : Room) s m args below meth c H locs 0 0 (MQ below (Q_M_between_0 D ca ad L r F9 B9 A) args s 0 0 A) (F0 m 69 ls [])) {l5 : Int} {l4 : Int} {l3 : Int} {l2 : Int} {l1 : Int} {F : zF} {B : zB} {H : Heap} {locs : List Loc} {ls : Array Slot} (hf : f_M_between_0_111 rec7 rec17 rec26 rec69 K l5 l4 l3 l2 l1 F B = some (r, F9, B9)) (hZ : zH D ca ad lnM nM L F B A H) (hS : va_S A s.heap H locs) (hl : lv_has ls 6 [(5, .int (iI l5)), (4, .int (iI l4)), (3, .int (iI l3)), (2, .int (iI l2)), (1, .ref (ad 13 l1 0))]) : W p l e ({ frames := 4, cells := 0, slots := 0, locals := 105 } : Room) s m args below meth c H locs 0 0 (MQ below (Q_M_between_0 D ca ad L r F9 B9 A) args s 0 0 A) (F0 m 111 ls []) := by
  obtain ⟨hx, hb, hr, hml, hown, hts, hlk, hK, hA, hL, hX⟩ := id X
  replace hf : (zbind (f_M_fault_1 K l1 l2 l3 l4 l5 F B) (fun r31 F31 B31 => f_M_between_0_121 rec7 rec17 rec26 rec69 K l5 l4 l3 l2 l1 F31 B31)) = some (r, F9, B9) := hf
  refine lv_aload_n hx hb d_15_186_111 rfl (lv_at hl 4 rfl) ?_
  refine lv_iload_n hx hb d_15_186_112 rfl (lv_at hl 3 rfl) ?_
  refine lv_iload_n hx hb d_15_186_113 rfl (lv_at hl 2 rfl) ?_
  refine lv_iload hx hb d_15_186_114 (lv_at hl 1 rfl) ?_
  refine lv_iload hx hb d_15_186_116 (lv_at hl 0 rfl) ?_
  obtain ⟨r31, F31, B31, hc31, hf⟩ := gbind hf
  refine va_callv (va_runS (As := [.ref (ad 13 l1 0), .int (iI l2), .int (iI l3), .int (iI l4), .int (iI l5)]) (rest := []) ⟨hx, hb, hml, hown, hts⟩ (c_M_fault_1 (l := l) hc31) (va_cwS 5 hts (gdS k_15_127 k_15_128 k_1_9 k_15_129) rfl rfl rfl (by decide +kernel) ⟨Nat.le_of_ble_eq_true rfl, Nat.le_of_ble_eq_true rfl⟩) (zPS X hZ hS [.ref (ad 13 l1 0), .int (iI l2), .int (iI l3), .int (iI l4), .int (iI l5)]) rfl rfl hl.1 rfl (lv_room (Nat.le_of_ble_eq_true rfl)) d_15_186_118 ⟨Nat.le_of_ble_eq_true rfl, Nat.le_of_ble_eq_true rfl⟩) hS (fun q _ h => zAin X hS q h) (zAin X hS) (fun u31 t31 H31 locs31 ht31 hv31 hw31 hB31 hz31 hk31 hS31 => ?_)
  have hZ31 := zBack X ht31 hB31
  exact b_M_between_0_121 X hrec7 hrec17 hrec26 hrec69 hf hZ31 hS31 (lv_sub hl [0, 1, 2, 3, 4] rfl)

def f_M_between_0_69 (rec7 : Int → Int → zF → zB → zO) (rec17 : Int → Int → Int → zF → zB → zO) (rec26 : Int → Int → Int → Int → zF → zB → zO) (K : Nat) : Nat → Int → Int → Int → Int → Int → zF → zB → zO
  | 0, _, _, _, _, _, _, _ => none
  | n + 1, l5, l4, l3, l2, l1, F, B => if 0 ≤ l1 ∧ l1 < 3 then if r32 l5 then if r32 (F 13 l1 1) then (if (F 13 l1 1) ≤ l5 then f_M_between_0_127 rec7 rec17 rec26 K l4 l3 l2 l1 F B else if r32 l3 then (if l3 = 4 then zbind (f_M_isCrossed K l1 l2 l4 l5 F B) (fun r28 F28 B28 => if r32 r28 then (if r28 = 0 then f_M_between_0_121 rec7 rec17 rec26 (f_M_between_0_69 rec7 rec17 rec26 K n) K l5 l4 l3 l2 l1 F28 B28 else f_M_between_0_111 rec7 rec17 rec26 (f_M_between_0_69 rec7 rec17 rec26 K n) K l5 l4 l3 l2 l1 F28 B28) else none) else zbind (f_M_isParallel K l1 l2 l3 l4 l5 F B) (fun r25 F25 B25 => if r32 r25 then (if r25 = 0 then f_M_between_0_121 rec7 rec17 rec26 (f_M_between_0_69 rec7 rec17 rec26 K n) K l5 l4 l3 l2 l1 F25 B25 else f_M_between_0_111 rec7 rec17 rec26 (f_M_between_0_69 rec7 rec17 rec26 K n) K l5 l4 l3 l2 l1 F25 B25) else none)) else none) else none else none else none
set_option maxHeartbeats 4000000 in
set_option maxRecDepth 100000 in
theorem b_M_between_0_69 {D : va_G} {ca : Nat → ClassId} {ad : Nat → Int → Nat → Nat} {L : List Nat} {aS vS : Nat → Nat} {A : Nat → Prop} {p : Program} {l : Launch} {e : Env} {s : State} {m : MethodId} {args : Array Value} {below : List Frame} {meth : Method} {c : Code} {K : Nat} {r : Int} {F9 : zF} {B9 : zB} (X : zX D ca L aS vS A p s m args meth c prog_15_method_186_code 6 (Option.none : Option Jvm.ClassFile.FieldType) "StaveHouseModel") {rec7 : Int → Int → zF → zB → zO} {rec17 : Int → Int → Int → zF → zB → zO} {rec26 : Int → Int → Int → Int → zF → zB → zO} (hrec7 : ∀ {l2 : Int} {l1 : Int} {F : zF} {B : zB} {H : Heap} {locs : List Loc} {ls : Array Slot}, rec7 l2 l1 F B = some (r, F9, B9) → zH D ca ad lnM nM L F B A H → va_S A s.heap H locs → lv_has ls 6 [(2, .int (iI l2)), (1, .ref (ad 13 l1 0))] → W p l e ({ frames := 4, cells := 0, slots := 0, locals := 105 } : Room) s m args below meth c H locs 0 0 (MQ below (Q_M_between_0 D ca ad L r F9 B9 A) args s 0 0 A) (F0 m 7 ls [])) (hrec17 : ∀ {l3 : Int} {l2 : Int} {l1 : Int} {F : zF} {B : zB} {H : Heap} {locs : List Loc} {ls : Array Slot}, rec17 l3 l2 l1 F B = some (r, F9, B9) → zH D ca ad lnM nM L F B A H → va_S A s.heap H locs → lv_has ls 6 [(3, .int (iI l3)), (2, .int (iI l2)), (1, .ref (ad 13 l1 0))] → W p l e ({ frames := 4, cells := 0, slots := 0, locals := 105 } : Room) s m args below meth c H locs 0 0 (MQ below (Q_M_between_0 D ca ad L r F9 B9 A) args s 0 0 A) (F0 m 17 ls [])) (hrec26 : ∀ {l4 : Int} {l3 : Int} {l2 : Int} {l1 : Int} {F : zF} {B : zB} {H : Heap} {locs : List Loc} {ls : Array Slot}, rec26 l4 l3 l2 l1 F B = some (r, F9, B9) → zH D ca ad lnM nM L F B A H → va_S A s.heap H locs → lv_has ls 6 [(4, .int (iI l4)), (3, .int (iI l3)), (2, .int (iI l2)), (1, .ref (ad 13 l1 0))] → W p l e ({ frames := 4, cells := 0, slots := 0, locals := 105 } : Room) s m args below meth c H locs 0 0 (MQ below (Q_M_between_0 D ca ad L r F9 B9 A) args s 0 0 A) (F0 m 26 ls [])) : ∀ {n : Nat} {l5 : Int} {l4 : Int} {l3 : Int} {l2 : Int} {l1 : Int} {F : zF} {B : zB} {H : Heap} {locs : List Loc} {ls : Array Slot}, f_M_between_0_69 rec7 rec17 rec26 K n l5 l4 l3 l2 l1 F B = some (r, F9, B9) → zH D ca ad lnM nM L F B A H → va_S A s.heap H locs → lv_has ls 6 [(5, .int (iI l5)), (4, .int (iI l4)), (3, .int (iI l3)), (2, .int (iI l2)), (1, .ref (ad 13 l1 0))] → W p l e ({ frames := 4, cells := 0, slots := 0, locals := 105 } : Room) s m args below meth c H locs 0 0 (MQ below (Q_M_between_0 D ca ad L r F9 B9 A) args s 0 0 A) (F0 m 69 ls []) := by
  obtain ⟨hx, hb, hr, hml, hown, hts, hlk, hK, hA, hL, hX⟩ := id X
  intro n
  induction n with
  | zero =>
    intros
    rename_i hf _ _ _
    cases hf
  | succ n ih =>
    intro l5 l4 l3 l2 l1 F B H locs ls hf hZ hS hl
    replace hf : (if 0 ≤ l1 ∧ l1 < 3 then if r32 l5 then if r32 (F 13 l1 1) then (if (F 13 l1 1) ≤ l5 then f_M_between_0_127 rec7 rec17 rec26 K l4 l3 l2 l1 F B else if r32 l3 then (if l3 = 4 then zbind (f_M_isCrossed K l1 l2 l4 l5 F B) (fun r28 F28 B28 => if r32 r28 then (if r28 = 0 then f_M_between_0_121 rec7 rec17 rec26 (f_M_between_0_69 rec7 rec17 rec26 K n) K l5 l4 l3 l2 l1 F28 B28 else f_M_between_0_111 rec7 rec17 rec26 (f_M_between_0_69 rec7 rec17 rec26 K n) K l5 l4 l3 l2 l1 F28 B28) else none) else zbind (f_M_isParallel K l1 l2 l3 l4 l5 F B) (fun r25 F25 B25 => if r32 r25 then (if r25 = 0 then f_M_between_0_121 rec7 rec17 rec26 (f_M_between_0_69 rec7 rec17 rec26 K n) K l5 l4 l3 l2 l1 F25 B25 else f_M_between_0_111 rec7 rec17 rec26 (f_M_between_0_69 rec7 rec17 rec26 K n) K l5 l4 l3 l2 l1 F25 B25) else none)) else none) else none else none else none) = some (r, F9, B9) := hf
    refine lv_iload hx hb d_15_186_69 (lv_at hl 0 rfl) ?_
    refine lv_aload_n hx hb d_15_186_71 rfl (lv_at hl 4 rfl) ?_
    obtain ⟨g19, hf⟩ := gif hf
    refine zget (ci := 13) (C := RX13) (T := TX13) (v := .int (iI (F 13 l1 1))) (k := 1) hx hb hts inW_13 hown hK hZ g19.1 g19.2 rfl (by decide) k_9_126 rfl d_15_186_72 ?_
    obtain ⟨g20, hf⟩ := gif hf
    obtain ⟨g21, hf⟩ := gif hf
    refine zge (tgt := 127) hx hb g20 g21 d_15_186_75 (by decide) (fun h22 => ?_) (fun h22 => ?_)
    · replace hf := gpos hf h22
      exact b_M_between_0_127 X hrec7 hrec17 hrec26 hf hZ hS (lv_sub hl [1, 2, 3, 4] rfl)
    · replace hf := gneg hf h22
      refine lv_iload_n hx hb d_15_186_78 rfl (lv_at hl 2 rfl) ?_
      refine lv_iconst (v := iI 4) hx hb d_15_186_79 rfl ?_
      obtain ⟨g23, hf⟩ := gif hf
      refine zne (tgt := 98) hx hb g23 (by decide) d_15_186_80 (by decide) (fun h24 => ?_) (fun h24 => ?_)
      · replace hf := gneg hf h24
        refine lv_aload_n hx hb d_15_186_98 rfl (lv_at hl 4 rfl) ?_
        refine lv_iload_n hx hb d_15_186_99 rfl (lv_at hl 3 rfl) ?_
        refine lv_iload_n hx hb d_15_186_100 rfl (lv_at hl 2 rfl) ?_
        refine lv_iload hx hb d_15_186_101 (lv_at hl 1 rfl) ?_
        refine lv_iload hx hb d_15_186_103 (lv_at hl 0 rfl) ?_
        obtain ⟨r25, F25, B25, hc25, hf⟩ := gbind hf
        refine va_calli (va_runS (As := [.ref (ad 13 l1 0), .int (iI l2), .int (iI l3), .int (iI l4), .int (iI l5)]) (rest := []) ⟨hx, hb, hml, hown, hts⟩ (c_M_isParallel (l := l) hc25) (va_cwS 5 hts (gdS k_15_136 k_15_137 k_1_9 k_15_138) rfl rfl rfl (by decide +kernel) ⟨Nat.le_of_ble_eq_true rfl, Nat.le_of_ble_eq_true rfl⟩) (zPS X hZ hS [.ref (ad 13 l1 0), .int (iI l2), .int (iI l3), .int (iI l4), .int (iI l5)]) rfl rfl hl.1 rfl (lv_room (Nat.le_of_ble_eq_true rfl)) d_15_186_105 ⟨Nat.le_of_ble_eq_true rfl, Nat.le_of_ble_eq_true rfl⟩) hS (fun q _ h => zAin X hS q h) (zAin X hS) (fun p25 u25 t25 H25 locs25 ht25 hv25 hw25 hB25 hz25 hk25 hS25 => ?_)
        have hZ25 := zBack X ht25 hB25
        subst hw25
        obtain ⟨g26, hf⟩ := gif hf
        refine z0eq (tgt := 121) hx hb g26 d_15_186_108 (by decide) (fun h27 => ?_) (fun h27 => ?_)
        · replace hf := gpos hf h27
          exact b_M_between_0_121 X hrec7 hrec17 hrec26 ih hf hZ25 hS25 (lv_sub hl [0, 1, 2, 3, 4] rfl)
        · replace hf := gneg hf h27
          exact b_M_between_0_111 X hrec7 hrec17 hrec26 ih hf hZ25 hS25 (lv_sub hl [0, 1, 2, 3, 4] rfl)
      · replace hf := gpos hf h24
        refine lv_aload_n hx hb d_15_186_83 rfl (lv_at hl 4 rfl) ?_
        refine lv_iload_n hx hb d_15_186_84 rfl (lv_at hl 3 rfl) ?_
        refine lv_iload hx hb d_15_186_85 (lv_at hl 1 rfl) ?_
        refine lv_iload hx hb d_15_186_87 (lv_at hl 0 rfl) ?_
        obtain ⟨r28, F28, B28, hc28, hf⟩ := gbind hf
        refine va_calli (va_runS (As := [.ref (ad 13 l1 0), .int (iI l2), .int (iI l4), .int (iI l5)]) (rest := []) ⟨hx, hb, hml, hown, hts⟩ (c_M_isCrossed (l := l) hc28) (va_cwS 4 hts (gdS k_15_130 k_15_131 k_1_9 k_15_132) rfl rfl rfl (by decide +kernel) ⟨Nat.le_of_ble_eq_true rfl, Nat.le_of_ble_eq_true rfl⟩) (zPS X hZ hS [.ref (ad 13 l1 0), .int (iI l2), .int (iI l4), .int (iI l5)]) rfl rfl hl.1 rfl (lv_room (Nat.le_of_ble_eq_true rfl)) d_15_186_89 ⟨Nat.le_of_ble_eq_true rfl, Nat.le_of_ble_eq_true rfl⟩) hS (fun q _ h => zAin X hS q h) (zAin X hS) (fun p28 u28 t28 H28 locs28 ht28 hv28 hw28 hB28 hz28 hk28 hS28 => ?_)
        have hZ28 := zBack X ht28 hB28
        subst hw28
        obtain ⟨g29, hf⟩ := gif hf
        refine z0eq (tgt := 121) hx hb g29 d_15_186_92 (by decide) (fun h30 => ?_) (fun h30 => ?_)
        · replace hf := gpos hf h30
          exact b_M_between_0_121 X hrec7 hrec17 hrec26 ih hf hZ28 hS28 (lv_sub hl [0, 1, 2, 3, 4] rfl)
        · replace hf := gneg hf h30
          refine lv_goto (tgt := 111) hx hb d_15_186_95 (by decide) ?_
          exact b_M_between_0_111 X hrec7 hrec17 hrec26 ih hf hZ28 hS28 (lv_sub hl [0, 1, 2, 3, 4] rfl)

def f_M_between_0_26 (rec7 : Int → Int → zF → zB → zO) (rec17 : Int → Int → Int → zF → zB → zO) (K : Nat) : Nat → Int → Int → Int → Int → zF → zB → zO
  | 0, _, _, _, _, _, _ => none
  | n + 1, l4, l3, l2, l1, F, B => if 0 ≤ l1 ∧ l1 < 3 then if r32 l4 then if r32 (F 13 l1 1) then (if (F 13 l1 1) ≤ l4 then rec17 (l3 + 1) l2 l1 F B else if r32 l3 then (if l3 ≤ 4 then f_M_between_0_69 rec7 rec17 (f_M_between_0_26 rec7 rec17 K n) K K (l4 + 1) l4 l3 l2 l1 F B else zbind (f_M_isAlone K l1 l2 l3 l4 F B) (fun r15 F15 B15 => if r32 r15 then (if r15 = 0 then f_M_between_0_127 rec7 rec17 (f_M_between_0_26 rec7 rec17 K n) K l4 l3 l2 l1 F15 B15 else zbind (f_M_fault_1 K l1 l2 l3 l4 (-1) F15 B15) (fun r18 F18 B18 => f_M_between_0_127 rec7 rec17 (f_M_between_0_26 rec7 rec17 K n) K l4 l3 l2 l1 F18 B18)) else none)) else none) else none else none else none
set_option maxHeartbeats 4000000 in
set_option maxRecDepth 100000 in
theorem b_M_between_0_26 {D : va_G} {ca : Nat → ClassId} {ad : Nat → Int → Nat → Nat} {L : List Nat} {aS vS : Nat → Nat} {A : Nat → Prop} {p : Program} {l : Launch} {e : Env} {s : State} {m : MethodId} {args : Array Value} {below : List Frame} {meth : Method} {c : Code} {K : Nat} {r : Int} {F9 : zF} {B9 : zB} (X : zX D ca L aS vS A p s m args meth c prog_15_method_186_code 6 (Option.none : Option Jvm.ClassFile.FieldType) "StaveHouseModel") {rec7 : Int → Int → zF → zB → zO} {rec17 : Int → Int → Int → zF → zB → zO} (hrec7 : ∀ {l2 : Int} {l1 : Int} {F : zF} {B : zB} {H : Heap} {locs : List Loc} {ls : Array Slot}, rec7 l2 l1 F B = some (r, F9, B9) → zH D ca ad lnM nM L F B A H → va_S A s.heap H locs → lv_has ls 6 [(2, .int (iI l2)), (1, .ref (ad 13 l1 0))] → W p l e ({ frames := 4, cells := 0, slots := 0, locals := 105 } : Room) s m args below meth c H locs 0 0 (MQ below (Q_M_between_0 D ca ad L r F9 B9 A) args s 0 0 A) (F0 m 7 ls [])) (hrec17 : ∀ {l3 : Int} {l2 : Int} {l1 : Int} {F : zF} {B : zB} {H : Heap} {locs : List Loc} {ls : Array Slot}, rec17 l3 l2 l1 F B = some (r, F9, B9) → zH D ca ad lnM nM L F B A H → va_S A s.heap H locs → lv_has ls 6 [(3, .int (iI l3)), (2, .int (iI l2)), (1, .ref (ad 13 l1 0))] → W p l e ({ frames := 4, cells := 0, slots := 0, locals := 105 } : Room) s m args below meth c H locs 0 0 (MQ below (Q_M_between_0 D ca ad L r F9 B9 A) args s 0 0 A) (F0 m 17 ls [])) : ∀ {n : Nat} {l4 : Int} {l3 : Int} {l2 : Int} {l1 : Int} {F : zF} {B : zB} {H : Heap} {locs : List Loc} {ls : Array Slot}, f_M_between_0_26 rec7 rec17 K n l4 l3 l2 l1 F B = some (r, F9, B9) → zH D ca ad lnM nM L F B A H → va_S A s.heap H locs → lv_has ls 6 [(4, .int (iI l4)), (3, .int (iI l3)), (2, .int (iI l2)), (1, .ref (ad 13 l1 0))] → W p l e ({ frames := 4, cells := 0, slots := 0, locals := 105 } : Room) s m args below meth c H locs 0 0 (MQ below (Q_M_between_0 D ca ad L r F9 B9 A) args s 0 0 A) (F0 m 26 ls []) := by
  obtain ⟨hx, hb, hr, hml, hown, hts, hlk, hK, hA, hL, hX⟩ := id X
  intro n
  induction n with
  | zero =>
    intros
    rename_i hf _ _ _
    cases hf
  | succ n ih =>
    intro l4 l3 l2 l1 F B H locs ls hf hZ hS hl
    replace hf : (if 0 ≤ l1 ∧ l1 < 3 then if r32 l4 then if r32 (F 13 l1 1) then (if (F 13 l1 1) ≤ l4 then rec17 (l3 + 1) l2 l1 F B else if r32 l3 then (if l3 ≤ 4 then f_M_between_0_69 rec7 rec17 (f_M_between_0_26 rec7 rec17 K n) K K (l4 + 1) l4 l3 l2 l1 F B else zbind (f_M_isAlone K l1 l2 l3 l4 F B) (fun r15 F15 B15 => if r32 r15 then (if r15 = 0 then f_M_between_0_127 rec7 rec17 (f_M_between_0_26 rec7 rec17 K n) K l4 l3 l2 l1 F15 B15 else zbind (f_M_fault_1 K l1 l2 l3 l4 (-1) F15 B15) (fun r18 F18 B18 => f_M_between_0_127 rec7 rec17 (f_M_between_0_26 rec7 rec17 K n) K l4 l3 l2 l1 F18 B18)) else none)) else none) else none else none else none) = some (r, F9, B9) := hf
    refine lv_iload hx hb d_15_186_26 (lv_at hl 0 rfl) ?_
    refine lv_aload_n hx hb d_15_186_28 rfl (lv_at hl 3 rfl) ?_
    obtain ⟨g9, hf⟩ := gif hf
    refine zget (ci := 13) (C := RX13) (T := TX13) (v := .int (iI (F 13 l1 1))) (k := 1) hx hb hts inW_13 hown hK hZ g9.1 g9.2 rfl (by decide) k_9_126 rfl d_15_186_29 ?_
    obtain ⟨g10, hf⟩ := gif hf
    obtain ⟨g11, hf⟩ := gif hf
    refine zge (tgt := 133) hx hb g10 g11 d_15_186_32 (by decide) (fun h12 => ?_) (fun h12 => ?_)
    · replace hf := gpos hf h12
      refine lv_iinc (v := iI (l3 + 1)) (lv' := [(3, .int (iI (l3 + 1))), (4, .int (iI l4)), (2, .int (iI l2)), (1, .ref (ad 13 l1 0))]) hx hb d_15_186_133 hl (k := 1) rfl (iI_add _ 1) (by decide) rfl (fun ls hl => ?_)
      refine lv_goto (tgt := 17) hx hb d_15_186_136 (by decide) ?_
      exact hrec17 hf hZ hS (lv_sub hl [0, 2, 3] rfl)
    · replace hf := gneg hf h12
      refine lv_iload_n hx hb d_15_186_35 rfl (lv_at hl 1 rfl) ?_
      refine lv_iconst (v := iI 4) hx hb d_15_186_36 rfl ?_
      obtain ⟨g13, hf⟩ := gif hf
      refine zle (tgt := 63) hx hb g13 (by decide) d_15_186_37 (by decide) (fun h14 => ?_) (fun h14 => ?_)
      · replace hf := gpos hf h14
        refine lv_iload hx hb d_15_186_63 (lv_at hl 0 rfl) ?_
        refine lv_iconst (v := iI 1) hx hb d_15_186_65 rfl ?_
        refine zadd hx hb d_15_186_66 ?_
        refine lv_istore (lv' := [(5, .int (iI (l4 + 1))), (4, .int (iI l4)), (3, .int (iI l3)), (2, .int (iI l2)), (1, .ref (ad 13 l1 0))]) hx hb d_15_186_67 hl (by decide) rfl (fun ls hl => ?_)
        exact b_M_between_0_69 X hrec7 hrec17 ih hf hZ hS (lv_sub hl [0, 1, 2, 3, 4] rfl)
      · replace hf := gneg hf h14
        refine lv_aload_n hx hb d_15_186_40 rfl (lv_at hl 3 rfl) ?_
        refine lv_iload_n hx hb d_15_186_41 rfl (lv_at hl 2 rfl) ?_
        refine lv_iload_n hx hb d_15_186_42 rfl (lv_at hl 1 rfl) ?_
        refine lv_iload hx hb d_15_186_43 (lv_at hl 0 rfl) ?_
        obtain ⟨r15, F15, B15, hc15, hf⟩ := gbind hf
        refine va_calli (va_runS (As := [.ref (ad 13 l1 0), .int (iI l2), .int (iI l3), .int (iI l4)]) (rest := []) ⟨hx, hb, hml, hown, hts⟩ (c_M_isAlone (l := l) hc15) (va_cwS 4 hts (gdS k_15_112 k_15_113 k_1_9 k_15_114) rfl rfl rfl (by decide +kernel) ⟨Nat.le_of_ble_eq_true rfl, Nat.le_of_ble_eq_true rfl⟩) (zPS X hZ hS [.ref (ad 13 l1 0), .int (iI l2), .int (iI l3), .int (iI l4)]) rfl rfl hl.1 rfl (lv_room (Nat.le_of_ble_eq_true rfl)) d_15_186_45 ⟨Nat.le_of_ble_eq_true rfl, Nat.le_of_ble_eq_true rfl⟩) hS (fun q _ h => zAin X hS q h) (zAin X hS) (fun p15 u15 t15 H15 locs15 ht15 hv15 hw15 hB15 hz15 hk15 hS15 => ?_)
        have hZ15 := zBack X ht15 hB15
        subst hw15
        obtain ⟨g16, hf⟩ := gif hf
        refine z0eq (tgt := 127) hx hb g16 d_15_186_48 (by decide) (fun h17 => ?_) (fun h17 => ?_)
        · replace hf := gpos hf h17
          exact b_M_between_0_127 X hrec7 hrec17 ih hf hZ15 hS15 (lv_sub hl [0, 1, 2, 3] rfl)
        · replace hf := gneg hf h17
          refine lv_aload_n hx hb d_15_186_51 rfl (lv_at hl 3 rfl) ?_
          refine lv_iload_n hx hb d_15_186_52 rfl (lv_at hl 2 rfl) ?_
          refine lv_iload_n hx hb d_15_186_53 rfl (lv_at hl 1 rfl) ?_
          refine lv_iload hx hb d_15_186_54 (lv_at hl 0 rfl) ?_
          refine lv_iconst (v := iI (-1)) hx hb d_15_186_56 rfl ?_
          obtain ⟨r18, F18, B18, hc18, hf⟩ := gbind hf
          refine va_callv (va_runS (As := [.ref (ad 13 l1 0), .int (iI l2), .int (iI l3), .int (iI l4), .int (iI (-1))]) (rest := []) ⟨hx, hb, hml, hown, hts⟩ (c_M_fault_1 (l := l) hc18) (va_cwS 5 hts (gdS k_15_127 k_15_128 k_1_9 k_15_129) rfl rfl rfl (by decide +kernel) ⟨Nat.le_of_ble_eq_true rfl, Nat.le_of_ble_eq_true rfl⟩) (zPS X hZ15 hS15 [.ref (ad 13 l1 0), .int (iI l2), .int (iI l3), .int (iI l4), .int (iI (-1))]) rfl rfl hl.1 rfl (lv_room (Nat.le_of_ble_eq_true rfl)) d_15_186_57 ⟨Nat.le_of_ble_eq_true rfl, Nat.le_of_ble_eq_true rfl⟩) hS15 (fun q _ h => zAin X hS15 q h) (zAin X hS15) (fun u18 t18 H18 locs18 ht18 hv18 hw18 hB18 hz18 hk18 hS18 => ?_)
          have hZ18 := zBack X ht18 hB18
          refine lv_goto (tgt := 127) hx hb d_15_186_60 (by decide) ?_
          exact b_M_between_0_127 X hrec7 hrec17 ih hf hZ18 hS18 (lv_sub hl [0, 1, 2, 3] rfl)

def f_M_between_0_17 (rec7 : Int → Int → zF → zB → zO) (K : Nat) : Nat → Int → Int → Int → zF → zB → zO
  | 0, _, _, _, _, _ => none
  | n + 1, l3, l2, l1, F, B => if r32 l3 then (if 7 ≤ l3 then rec7 (l2 + 1) l1 F B else f_M_between_0_26 rec7 (f_M_between_0_17 rec7 K n) K K 0 l3 l2 l1 F B) else none
set_option maxHeartbeats 4000000 in
set_option maxRecDepth 100000 in
theorem b_M_between_0_17 {D : va_G} {ca : Nat → ClassId} {ad : Nat → Int → Nat → Nat} {L : List Nat} {aS vS : Nat → Nat} {A : Nat → Prop} {p : Program} {l : Launch} {e : Env} {s : State} {m : MethodId} {args : Array Value} {below : List Frame} {meth : Method} {c : Code} {K : Nat} {r : Int} {F9 : zF} {B9 : zB} (X : zX D ca L aS vS A p s m args meth c prog_15_method_186_code 6 (Option.none : Option Jvm.ClassFile.FieldType) "StaveHouseModel") {rec7 : Int → Int → zF → zB → zO} (hrec7 : ∀ {l2 : Int} {l1 : Int} {F : zF} {B : zB} {H : Heap} {locs : List Loc} {ls : Array Slot}, rec7 l2 l1 F B = some (r, F9, B9) → zH D ca ad lnM nM L F B A H → va_S A s.heap H locs → lv_has ls 6 [(2, .int (iI l2)), (1, .ref (ad 13 l1 0))] → W p l e ({ frames := 4, cells := 0, slots := 0, locals := 105 } : Room) s m args below meth c H locs 0 0 (MQ below (Q_M_between_0 D ca ad L r F9 B9 A) args s 0 0 A) (F0 m 7 ls [])) : ∀ {n : Nat} {l3 : Int} {l2 : Int} {l1 : Int} {F : zF} {B : zB} {H : Heap} {locs : List Loc} {ls : Array Slot}, f_M_between_0_17 rec7 K n l3 l2 l1 F B = some (r, F9, B9) → zH D ca ad lnM nM L F B A H → va_S A s.heap H locs → lv_has ls 6 [(3, .int (iI l3)), (2, .int (iI l2)), (1, .ref (ad 13 l1 0))] → W p l e ({ frames := 4, cells := 0, slots := 0, locals := 105 } : Room) s m args below meth c H locs 0 0 (MQ below (Q_M_between_0 D ca ad L r F9 B9 A) args s 0 0 A) (F0 m 17 ls []) := by
  obtain ⟨hx, hb, hr, hml, hown, hts, hlk, hK, hA, hL, hX⟩ := id X
  intro n
  induction n with
  | zero =>
    intros
    rename_i hf _ _ _
    cases hf
  | succ n ih =>
    intro l3 l2 l1 F B H locs ls hf hZ hS hl
    replace hf : (if r32 l3 then (if 7 ≤ l3 then rec7 (l2 + 1) l1 F B else f_M_between_0_26 rec7 (f_M_between_0_17 rec7 K n) K K 0 l3 l2 l1 F B) else none) = some (r, F9, B9) := hf
    refine lv_iload_n hx hb d_15_186_17 rfl (lv_at hl 0 rfl) ?_
    refine lv_bipush (v := iI 7) hx hb d_15_186_18 (by decide) ?_
    obtain ⟨g7, hf⟩ := gif hf
    refine zge (tgt := 139) hx hb g7 (by decide) d_15_186_20 (by decide) (fun h8 => ?_) (fun h8 => ?_)
    · replace hf := gpos hf h8
      refine lv_iinc (v := iI (l2 + 1)) (lv' := [(2, .int (iI (l2 + 1))), (3, .int (iI l3)), (1, .ref (ad 13 l1 0))]) hx hb d_15_186_139 hl (k := 1) rfl (iI_add _ 1) (by decide) rfl (fun ls hl => ?_)
      refine lv_goto (tgt := 7) hx hb d_15_186_142 (by decide) ?_
      exact hrec7 hf hZ hS (lv_sub hl [0, 2] rfl)
    · replace hf := gneg hf h8
      refine lv_iconst (v := iI 0) hx hb d_15_186_23 rfl ?_
      refine lv_istore (lv' := [(4, .int (iI 0)), (3, .int (iI l3)), (2, .int (iI l2)), (1, .ref (ad 13 l1 0))]) hx hb d_15_186_24 hl (by decide) rfl (fun ls hl => ?_)
      exact b_M_between_0_26 X hrec7 ih hf hZ hS (lv_sub hl [0, 1, 2, 3] rfl)

def f_M_between_0_7 (K : Nat) : Nat → Int → Int → zF → zB → zO
  | 0, _, _, _, _ => none
  | n + 1, l2, l1, F, B => if 0 ≤ l1 ∧ l1 < 3 then if r32 l2 then if r32 (F 13 l1 72) then (if (F 13 l1 72) ≤ l2 then some (0, F, B) else f_M_between_0_17 (f_M_between_0_7 K n) K K 1 l2 l1 F B) else none else none else none
set_option maxHeartbeats 4000000 in
set_option maxRecDepth 100000 in
theorem b_M_between_0_7 {D : va_G} {ca : Nat → ClassId} {ad : Nat → Int → Nat → Nat} {L : List Nat} {aS vS : Nat → Nat} {A : Nat → Prop} {p : Program} {l : Launch} {e : Env} {s : State} {m : MethodId} {args : Array Value} {below : List Frame} {meth : Method} {c : Code} {K : Nat} {r : Int} {F9 : zF} {B9 : zB} (X : zX D ca L aS vS A p s m args meth c prog_15_method_186_code 6 (Option.none : Option Jvm.ClassFile.FieldType) "StaveHouseModel") : ∀ {n : Nat} {l2 : Int} {l1 : Int} {F : zF} {B : zB} {H : Heap} {locs : List Loc} {ls : Array Slot}, f_M_between_0_7 K n l2 l1 F B = some (r, F9, B9) → zH D ca ad lnM nM L F B A H → va_S A s.heap H locs → lv_has ls 6 [(2, .int (iI l2)), (1, .ref (ad 13 l1 0))] → W p l e ({ frames := 4, cells := 0, slots := 0, locals := 105 } : Room) s m args below meth c H locs 0 0 (MQ below (Q_M_between_0 D ca ad L r F9 B9 A) args s 0 0 A) (F0 m 7 ls []) := by
  obtain ⟨hx, hb, hr, hml, hown, hts, hlk, hK, hA, hL, hX⟩ := id X
  intro n
  induction n with
  | zero =>
    intros
    rename_i hf _ _ _
    cases hf
  | succ n ih =>
    intro l2 l1 F B H locs ls hf hZ hS hl
    replace hf : (if 0 ≤ l1 ∧ l1 < 3 then if r32 l2 then if r32 (F 13 l1 72) then (if (F 13 l1 72) ≤ l2 then some (0, F, B) else f_M_between_0_17 (f_M_between_0_7 K n) K K 1 l2 l1 F B) else none else none else none) = some (r, F9, B9) := hf
    refine lv_iload_n hx hb d_15_186_7 rfl (lv_at hl 0 rfl) ?_
    refine lv_aload_n hx hb d_15_186_8 rfl (lv_at hl 1 rfl) ?_
    obtain ⟨g3, hf⟩ := gif hf
    refine zget (ci := 13) (C := RX13) (T := TX13) (v := .int (iI (F 13 l1 72))) (k := 72) hx hb hts inW_13 hown hK hZ g3.1 g3.2 rfl (by decide) k_10_11 rfl d_15_186_9 ?_
    obtain ⟨g4, hf⟩ := gif hf
    obtain ⟨g5, hf⟩ := gif hf
    refine zge (tgt := 145) hx hb g4 g5 d_15_186_12 (by decide) (fun h6 => ?_) (fun h6 => ?_)
    · replace hf := gpos hf h6
      cases hf
      exact W.vret hx hb hr (fun t ht hW => ⟨⟨(), rfl, trivial, by rw [ht]; exact hZ, va_K.moved hW.alike hK⟩, hS.F ht⟩) hS.2.2 d_15_186_145 hlk
    · replace hf := gneg hf h6
      refine lv_iconst (v := iI 1) hx hb d_15_186_15 rfl ?_
      refine lv_istore_n (lv' := [(3, .int (iI 1)), (2, .int (iI l2)), (1, .ref (ad 13 l1 0))]) hx hb d_15_186_16 rfl hl (by decide) rfl (fun ls hl => ?_)
      exact b_M_between_0_17 X ih hf hZ hS (lv_sub hl [0, 1, 2] rfl)

def f_M_between_0 (K : Nat) (l1 : Int) (F : zF) (B : zB) : zO := if 0 ≤ l1 ∧ l1 < 3 then f_M_between_0_7 K K 1 l1 (zup3 F 13 l1 76 0) B else none
set_option maxHeartbeats 4000000 in
set_option maxRecDepth 100000 in
theorem c_M_between_0 {l : Launch} {D : va_G} {ca : Nat → ClassId} {ad : Nat → Int → Nat → Nat} {L : List Nat} {aS vS : Nat → Nat} {sz K : Nat} {l1 : Int} {F F9 : zF} {B B9 : zB} {r : Int} (hf : f_M_between_0 K l1 F B = some (r, F9, B9)) : Met l ({ cls := "StaveHouseModel", name := "between", desc := "(LStaveHouseModel$Piece;)V" } : Jvm.MethodName) (Cond.code ({ cls := "StaveHouseModel", name := "between", desc := "(LStaveHouseModel$Piece;)V" } : Jvm.MethodName) prog_15_method_186_code 6 (Option.none : Option Jvm.ClassFile.FieldType) :: wAll) ({ frames := 4, cells := 0, slots := 0, locals := 105 } : Room) (va_Pc [.ref (ad 14 0 0), .ref (ad 13 l1 0)] (zPre D ca ad lnM nM L aS vS F B sz)) (Q_M_between_0 D ca ad L r F9 B9 (zA L sz)) 0 0 (zA L sz) := by
  refine zMet (Qc := Q_M_between_0 D ca ad L r F9 B9) (lv := [(0, .ref (ad 14 0 0)), (1, .ref (ad 13 l1 0))]) (by decide) (Nat.le_of_ble_eq_true rfl) rfl (fun A p e s m below meth c ls X hZ hS hl => ?_)
  obtain ⟨hx, hb, hr, hml, hown, hts, hlk, hK, hA, hL, hX⟩ := id X
  replace hf : (if 0 ≤ l1 ∧ l1 < 3 then f_M_between_0_7 K K 1 l1 (zup3 F 13 l1 76 0) B else none) = some (r, F9, B9) := hf
  refine lv_aload_n hx hb d_15_186_0 rfl (lv_at hl 1 rfl) ?_
  refine lv_iconst (v := iI 0) hx hb d_15_186_1 rfl ?_
  obtain ⟨g1, hf⟩ := gif hf
  refine zput (ci := 13) (C := RX13) (T := TX13) (k := 76) (v := 0) (w := .int (iI 0)) hx hb hts inW_13 tyX13 tyX13_ok nmX13 hown hK hZ hS g1.1 g1.2 rfl (by decide) k_10_18 rfl (fun G h => congrArg (fun q => Value.int (iI q)) h) rfl rfl d_15_186_2 (fun H2 locs2 hZ2 hS2 => ?_)
  refine lv_iconst (v := iI 1) hx hb d_15_186_5 rfl ?_
  refine lv_istore_n (lv' := [(2, .int (iI 1)), (0, .ref (ad 14 0 0)), (1, .ref (ad 13 l1 0))]) hx hb d_15_186_6 rfl hl (by decide) rfl (fun ls hl => ?_)
  exact b_M_between_0_7 X hf hZ2 hS2 (lv_sub hl [0, 2] rfl)

abbrev Q_M_gather (D : va_G) (ca : Nat → ClassId) (ad : Nat → Int → Nat → Nat) (L : List Nat) (r : Int) (F : zF) (B : zB) (A : Nat → Prop) : Array Value → State → Outcome → State → Prop := va_Qi (S := Unit) (fun p _ => p = iI r) (fun _ => zPo D ca ad lnM nM L F B A) A
def f_M_gather_177 (rec7 : Int → Int → zF → zB → zO) (rec17 : Int → Int → Int → zF → zB → zO) (rec39 : Int → Int → Int → Int → Int → zF → zB → zO) (K : Nat) (l5 : Int) (l4 : Int) (l3 : Int) (l2 : Int) (l1 : Int) (F : zF) (B : zB) : zO := rec39 (l5 + 1) l4 l3 l2 l1 F B
set_option maxHeartbeats 4000000 in
set_option maxRecDepth 100000 in
theorem b_M_gather_177 {D : va_G} {ca : Nat → ClassId} {ad : Nat → Int → Nat → Nat} {L : List Nat} {aS vS : Nat → Nat} {A : Nat → Prop} {p : Program} {l : Launch} {e : Env} {s : State} {m : MethodId} {args : Array Value} {below : List Frame} {meth : Method} {c : Code} {K : Nat} {r : Int} {F9 : zF} {B9 : zB} (X : zX D ca L aS vS A p s m args meth c prog_15_method_116_code 9 (Option.some Jvm.ClassFile.FieldType.int) "StaveHouseModel") {rec7 : Int → Int → zF → zB → zO} {rec17 : Int → Int → Int → zF → zB → zO} {rec39 : Int → Int → Int → Int → Int → zF → zB → zO} (hrec7 : ∀ {l2 : Int} {l1 : Int} {F : zF} {B : zB} {H : Heap} {locs : List Loc} {ls : Array Slot}, rec7 l2 l1 F B = some (r, F9, B9) → zH D ca ad lnM nM L F B A H → va_S A s.heap H locs → lv_has ls 9 [(2, .int (iI l2)), (0, .ref (ad 14 0 0)), (1, .ref (ad 13 l1 0))] → W p l e ({ frames := 5, cells := 0, slots := 0, locals := 140 } : Room) s m args below meth c H locs 0 0 (MQ below (Q_M_gather D ca ad L r F9 B9 A) args s 0 0 A) (F0 m 7 ls [])) (hrec17 : ∀ {l3 : Int} {l2 : Int} {l1 : Int} {F : zF} {B : zB} {H : Heap} {locs : List Loc} {ls : Array Slot}, rec17 l3 l2 l1 F B = some (r, F9, B9) → zH D ca ad lnM nM L F B A H → va_S A s.heap H locs → lv_has ls 9 [(3, .int (iI l3)), (2, .int (iI l2)), (0, .ref (ad 14 0 0)), (1, .ref (ad 13 l1 0))] → W p l e ({ frames := 5, cells := 0, slots := 0, locals := 140 } : Room) s m args below meth c H locs 0 0 (MQ below (Q_M_gather D ca ad L r F9 B9 A) args s 0 0 A) (F0 m 17 ls [])) (hrec39 : ∀ {l5 : Int} {l4 : Int} {l3 : Int} {l2 : Int} {l1 : Int} {F : zF} {B : zB} {H : Heap} {locs : List Loc} {ls : Array Slot}, rec39 l5 l4 l3 l2 l1 F B = some (r, F9, B9) → zH D ca ad lnM nM L F B A H → va_S A s.heap H locs → lv_has ls 9 [(5, .int (iI l5)), (4, .int (iI l4)), (3, .int (iI l3)), (2, .int (iI l2)), (0, .ref (ad 14 0 0)), (1, .ref (ad 13 l1 0))] → W p l e ({ frames := 5, cells := 0, slots := 0, locals := 140 } : Room) s m args below meth c H locs 0 0 (MQ below (Q_M_gather D ca ad L r F9 B9 A) args s 0 0 A) (F0 m 39 ls [])) {l5 : Int} {l4 : Int} {l3 : Int} {l2 : Int} {l1 : Int} {F : zF} {B : zB} {H : Heap} {locs : List Loc} {ls : Array Slot} (hf : f_M_gather_177 rec7 rec17 rec39 K l5 l4 l3 l2 l1 F B = some (r, F9, B9)) (hZ : zH D ca ad lnM nM L F B A H) (hS : va_S A s.heap H locs) (hl : lv_has ls 9 [(5, .int (iI l5)), (4, .int (iI l4)), (3, .int (iI l3)), (2, .int (iI l2)), (0, .ref (ad 14 0 0)), (1, .ref (ad 13 l1 0))]) : W p l e ({ frames := 5, cells := 0, slots := 0, locals := 140 } : Room) s m args below meth c H locs 0 0 (MQ below (Q_M_gather D ca ad L r F9 B9 A) args s 0 0 A) (F0 m 177 ls []) := by
  obtain ⟨hx, hb, hr, hml, hown, hts, hlk, hK, hA, hL, hX⟩ := id X
  replace hf : (rec39 (l5 + 1) l4 l3 l2 l1 F B) = some (r, F9, B9) := hf
  refine lv_iinc (v := iI (l5 + 1)) (lv' := [(5, .int (iI (l5 + 1))), (4, .int (iI l4)), (3, .int (iI l3)), (2, .int (iI l2)), (0, .ref (ad 14 0 0)), (1, .ref (ad 13 l1 0))]) hx hb d_15_116_177 hl (k := 0) rfl (iI_add _ 1) (by decide) rfl (fun ls hl => ?_)
  refine lv_goto (tgt := 39) hx hb d_15_116_180 (by decide) ?_
  exact hrec39 hf hZ hS (lv_sub hl [0, 1, 2, 3, 4, 5] rfl)

def f_M_gather_145 (rec7 : Int → Int → zF → zB → zO) (rec17 : Int → Int → Int → zF → zB → zO) (rec39 : Int → Int → Int → Int → Int → zF → zB → zO) (K : Nat) (l7 : Int) (l6 : Int) (l5 : Int) (l4 : Int) (l3 : Int) (l2 : Int) (l1 : Int) (s0 : Int) (F : zF) (B : zB) : zO := if r32 s0 then (if s0 = 0 then zbind (f_M_plain K l1 l2 l3 l6 l7 F B) (fun r33 F33 B33 => f_M_gather_177 rec7 rec17 rec39 K l5 l4 l3 l2 l1 F33 B33) else zbind (f_M_trill K l1 l2 l3 l6 l7 F B) (fun r34 F34 B34 => f_M_gather_177 rec7 rec17 rec39 K l5 l4 l3 l2 l1 F34 B34)) else none
set_option maxHeartbeats 4000000 in
set_option maxRecDepth 100000 in
theorem b_M_gather_145 {D : va_G} {ca : Nat → ClassId} {ad : Nat → Int → Nat → Nat} {L : List Nat} {aS vS : Nat → Nat} {A : Nat → Prop} {p : Program} {l : Launch} {e : Env} {s : State} {m : MethodId} {args : Array Value} {below : List Frame} {meth : Method} {c : Code} {K : Nat} {r : Int} {F9 : zF} {B9 : zB} (X : zX D ca L aS vS A p s m args meth c prog_15_method_116_code 9 (Option.some Jvm.ClassFile.FieldType.int) "StaveHouseModel") {rec7 : Int → Int → zF → zB → zO} {rec17 : Int → Int → Int → zF → zB → zO} {rec39 : Int → Int → Int → Int → Int → zF → zB → zO} (hrec7 : ∀ {l2 : Int} {l1 : Int} {F : zF} {B : zB} {H : Heap} {locs : List Loc} {ls : Array Slot}, rec7 l2 l1 F B = some (r, F9, B9) → zH D ca ad lnM nM L F B A H → va_S A s.heap H locs → lv_has ls 9 [(2, .int (iI l2)), (0, .ref (ad 14 0 0)), (1, .ref (ad 13 l1 0))] → W p l e ({ frames := 5, cells := 0, slots := 0, locals := 140 } : Room) s m args below meth c H locs 0 0 (MQ below (Q_M_gather D ca ad L r F9 B9 A) args s 0 0 A) (F0 m 7 ls [])) (hrec17 : ∀ {l3 : Int} {l2 : Int} {l1 : Int} {F : zF} {B : zB} {H : Heap} {locs : List Loc} {ls : Array Slot}, rec17 l3 l2 l1 F B = some (r, F9, B9) → zH D ca ad lnM nM L F B A H → va_S A s.heap H locs → lv_has ls 9 [(3, .int (iI l3)), (2, .int (iI l2)), (0, .ref (ad 14 0 0)), (1, .ref (ad 13 l1 0))] → W p l e ({ frames := 5, cells := 0, slots := 0, locals := 140 } : Room) s m args below meth c H locs 0 0 (MQ below (Q_M_gather D ca ad L r F9 B9 A) args s 0 0 A) (F0 m 17 ls [])) (hrec39 : ∀ {l5 : Int} {l4 : Int} {l3 : Int} {l2 : Int} {l1 : Int} {F : zF} {B : zB} {H : Heap} {locs : List Loc} {ls : Array Slot}, rec39 l5 l4 l3 l2 l1 F B = some (r, F9, B9) → zH D ca ad lnM nM L F B A H → va_S A s.heap H locs → lv_has ls 9 [(5, .int (iI l5)), (4, .int (iI l4)), (3, .int (iI l3)), (2, .int (iI l2)), (0, .ref (ad 14 0 0)), (1, .ref (ad 13 l1 0))] → W p l e ({ frames := 5, cells := 0, slots := 0, locals := 140 } : Room) s m args below meth c H locs 0 0 (MQ below (Q_M_gather D ca ad L r F9 B9 A) args s 0 0 A) (F0 m 39 ls [])) {l7 : Int} {l6 : Int} {l5 : Int} {l4 : Int} {l3 : Int} {l2 : Int} {l1 : Int} {s0 : Int} {F : zF} {B : zB} {H : Heap} {locs : List Loc} {ls : Array Slot} (hf : f_M_gather_145 rec7 rec17 rec39 K l7 l6 l5 l4 l3 l2 l1 s0 F B = some (r, F9, B9)) (hZ : zH D ca ad lnM nM L F B A H) (hS : va_S A s.heap H locs) (hl : lv_has ls 9 [(7, .int (iI l7)), (6, .int (iI l6)), (5, .int (iI l5)), (4, .int (iI l4)), (3, .int (iI l3)), (2, .int (iI l2)), (0, .ref (ad 14 0 0)), (1, .ref (ad 13 l1 0))]) : W p l e ({ frames := 5, cells := 0, slots := 0, locals := 140 } : Room) s m args below meth c H locs 0 0 (MQ below (Q_M_gather D ca ad L r F9 B9 A) args s 0 0 A) (F0 m 145 ls [.int (iI s0)]) := by
  obtain ⟨hx, hb, hr, hml, hown, hts, hlk, hK, hA, hL, hX⟩ := id X
  replace hf : (if r32 s0 then (if s0 = 0 then zbind (f_M_plain K l1 l2 l3 l6 l7 F B) (fun r33 F33 B33 => f_M_gather_177 rec7 rec17 rec39 K l5 l4 l3 l2 l1 F33 B33) else zbind (f_M_trill K l1 l2 l3 l6 l7 F B) (fun r34 F34 B34 => f_M_gather_177 rec7 rec17 rec39 K l5 l4 l3 l2 l1 F34 B34)) else none) = some (r, F9, B9) := hf
  refine lv_istore (lv' := [(8, .int (iI s0)), (7, .int (iI l7)), (6, .int (iI l6)), (5, .int (iI l5)), (4, .int (iI l4)), (3, .int (iI l3)), (2, .int (iI l2)), (0, .ref (ad 14 0 0)), (1, .ref (ad 13 l1 0))]) hx hb d_15_116_145 hl (by decide) rfl (fun ls hl => ?_)
  refine lv_iload hx hb d_15_116_147 (lv_at hl 0 rfl) ?_
  obtain ⟨g31, hf⟩ := gif hf
  refine z0eq (tgt := 166) hx hb g31 d_15_116_149 (by decide) (fun h32 => ?_) (fun h32 => ?_)
  · replace hf := gpos hf h32
    refine lv_aload_n hx hb d_15_116_166 rfl (lv_at hl 7 rfl) ?_
    refine lv_aload_n hx hb d_15_116_167 rfl (lv_at hl 8 rfl) ?_
    refine lv_iload_n hx hb d_15_116_168 rfl (lv_at hl 6 rfl) ?_
    refine lv_iload_n hx hb d_15_116_169 rfl (lv_at hl 5 rfl) ?_
    refine lv_iload hx hb d_15_116_170 (lv_at hl 2 rfl) ?_
    refine lv_iload hx hb d_15_116_172 (lv_at hl 1 rfl) ?_
    obtain ⟨r33, F33, B33, hc33, hf⟩ := gbind hf
    refine va_callv (va_runV (As := [.ref (ad 13 l1 0), .int (iI l2), .int (iI l3), .int (iI l6), .int (iI l7)]) (rest := []) ⟨hx, hb, hml, hown, hts⟩ (c_M_plain (l := l) hc33) (cwV 5 hts (gdV k_12_178 k_12_180 ks_139 k_1_9 k_12_181) rfl rfl rfl (by decide +kernel) ⟨Nat.le_of_ble_eq_true rfl, Nat.le_of_ble_eq_true rfl⟩) (zPV X hZ hS (ci := 14) (by decide) (by decide) (r := (RX14, TX14, 107)) rfl [.ref (ad 13 l1 0), .int (iI l2), .int (iI l3), .int (iI l6), .int (iI l7)]) rfl rfl hl.1 rfl (lv_room (Nat.le_of_ble_eq_true rfl)) d_15_116_174 ⟨Nat.le_of_ble_eq_true rfl, Nat.le_of_ble_eq_true rfl⟩) hS (fun q _ h => zAin X hS q h) (zAin X hS) (fun u33 t33 H33 locs33 ht33 hv33 hw33 hB33 hz33 hk33 hS33 => ?_)
    have hZ33 := zBack X ht33 hB33
    exact b_M_gather_177 X hrec7 hrec17 hrec39 hf hZ33 hS33 (lv_sub hl [3, 4, 5, 6, 7, 8] rfl)
  · replace hf := gneg hf h32
    refine lv_aload_n hx hb d_15_116_152 rfl (lv_at hl 7 rfl) ?_
    refine lv_aload_n hx hb d_15_116_153 rfl (lv_at hl 8 rfl) ?_
    refine lv_iload_n hx hb d_15_116_154 rfl (lv_at hl 6 rfl) ?_
    refine lv_iload_n hx hb d_15_116_155 rfl (lv_at hl 5 rfl) ?_
    refine lv_iload hx hb d_15_116_156 (lv_at hl 2 rfl) ?_
    refine lv_iload hx hb d_15_116_158 (lv_at hl 1 rfl) ?_
    obtain ⟨r34, F34, B34, hc34, hf⟩ := gbind hf
    refine va_callv (va_runV (As := [.ref (ad 13 l1 0), .int (iI l2), .int (iI l3), .int (iI l6), .int (iI l7)]) (rest := []) ⟨hx, hb, hml, hown, hts⟩ (c_M_trill (l := l) hc34) (cwV 5 hts (gdV k_12_135 k_12_137 ks_133 k_1_9 k_12_138) rfl rfl rfl (by decide +kernel) ⟨Nat.le_of_ble_eq_true rfl, Nat.le_of_ble_eq_true rfl⟩) (zPV X hZ hS (ci := 14) (by decide) (by decide) (r := (RX14, TX14, 107)) rfl [.ref (ad 13 l1 0), .int (iI l2), .int (iI l3), .int (iI l6), .int (iI l7)]) rfl rfl hl.1 rfl (lv_room (Nat.le_of_ble_eq_true rfl)) d_15_116_160 ⟨Nat.le_of_ble_eq_true rfl, Nat.le_of_ble_eq_true rfl⟩) hS (fun q _ h => zAin X hS q h) (zAin X hS) (fun u34 t34 H34 locs34 ht34 hv34 hw34 hB34 hz34 hk34 hS34 => ?_)
    have hZ34 := zBack X ht34 hB34
    refine lv_goto (tgt := 177) hx hb d_15_116_163 (by decide) ?_
    exact b_M_gather_177 X hrec7 hrec17 hrec39 hf hZ34 hS34 (lv_sub hl [3, 4, 5, 6, 7, 8] rfl)

def f_M_gather_144 (rec7 : Int → Int → zF → zB → zO) (rec17 : Int → Int → Int → zF → zB → zO) (rec39 : Int → Int → Int → Int → Int → zF → zB → zO) (K : Nat) (l7 : Int) (l6 : Int) (l5 : Int) (l4 : Int) (l3 : Int) (l2 : Int) (l1 : Int) (F : zF) (B : zB) : zO := f_M_gather_145 rec7 rec17 rec39 K l7 l6 l5 l4 l3 l2 l1 0 F B
set_option maxHeartbeats 4000000 in
set_option maxRecDepth 100000 in
theorem b_M_gather_144 {D : va_G} {ca : Nat → ClassId} {ad : Nat → Int → Nat → Nat} {L : List Nat} {aS vS : Nat → Nat} {A : Nat → Prop} {p : Program} {l : Launch} {e : Env} {s : State} {m : MethodId} {args : Array Value} {below : List Frame} {meth : Method} {c : Code} {K : Nat} {r : Int} {F9 : zF} {B9 : zB} (X : zX D ca L aS vS A p s m args meth c prog_15_method_116_code 9 (Option.some Jvm.ClassFile.FieldType.int) "StaveHouseModel") {rec7 : Int → Int → zF → zB → zO} {rec17 : Int → Int → Int → zF → zB → zO} {rec39 : Int → Int → Int → Int → Int → zF → zB → zO} (hrec7 : ∀ {l2 : Int} {l1 : Int} {F : zF} {B : zB} {H : Heap} {locs : List Loc} {ls : Array Slot}, rec7 l2 l1 F B = some (r, F9, B9) → zH D ca ad lnM nM L F B A H → va_S A s.heap H locs → lv_has ls 9 [(2, .int (iI l2)), (0, .ref (ad 14 0 0)), (1, .ref (ad 13 l1 0))] → W p l e ({ frames := 5, cells := 0, slots := 0, locals := 140 } : Room) s m args below meth c H locs 0 0 (MQ below (Q_M_gather D ca ad L r F9 B9 A) args s 0 0 A) (F0 m 7 ls [])) (hrec17 : ∀ {l3 : Int} {l2 : Int} {l1 : Int} {F : zF} {B : zB} {H : Heap} {locs : List Loc} {ls : Array Slot}, rec17 l3 l2 l1 F B = some (r, F9, B9) → zH D ca ad lnM nM L F B A H → va_S A s.heap H locs → lv_has ls 9 [(3, .int (iI l3)), (2, .int (iI l2)), (0, .ref (ad 14 0 0)), (1, .ref (ad 13 l1 0))] → W p l e ({ frames := 5, cells := 0, slots := 0, locals := 140 } : Room) s m args below meth c H locs 0 0 (MQ below (Q_M_gather D ca ad L r F9 B9 A) args s 0 0 A) (F0 m 17 ls [])) (hrec39 : ∀ {l5 : Int} {l4 : Int} {l3 : Int} {l2 : Int} {l1 : Int} {F : zF} {B : zB} {H : Heap} {locs : List Loc} {ls : Array Slot}, rec39 l5 l4 l3 l2 l1 F B = some (r, F9, B9) → zH D ca ad lnM nM L F B A H → va_S A s.heap H locs → lv_has ls 9 [(5, .int (iI l5)), (4, .int (iI l4)), (3, .int (iI l3)), (2, .int (iI l2)), (0, .ref (ad 14 0 0)), (1, .ref (ad 13 l1 0))] → W p l e ({ frames := 5, cells := 0, slots := 0, locals := 140 } : Room) s m args below meth c H locs 0 0 (MQ below (Q_M_gather D ca ad L r F9 B9 A) args s 0 0 A) (F0 m 39 ls [])) {l7 : Int} {l6 : Int} {l5 : Int} {l4 : Int} {l3 : Int} {l2 : Int} {l1 : Int} {F : zF} {B : zB} {H : Heap} {locs : List Loc} {ls : Array Slot} (hf : f_M_gather_144 rec7 rec17 rec39 K l7 l6 l5 l4 l3 l2 l1 F B = some (r, F9, B9)) (hZ : zH D ca ad lnM nM L F B A H) (hS : va_S A s.heap H locs) (hl : lv_has ls 9 [(7, .int (iI l7)), (6, .int (iI l6)), (5, .int (iI l5)), (4, .int (iI l4)), (3, .int (iI l3)), (2, .int (iI l2)), (0, .ref (ad 14 0 0)), (1, .ref (ad 13 l1 0))]) : W p l e ({ frames := 5, cells := 0, slots := 0, locals := 140 } : Room) s m args below meth c H locs 0 0 (MQ below (Q_M_gather D ca ad L r F9 B9 A) args s 0 0 A) (F0 m 144 ls []) := by
  obtain ⟨hx, hb, hr, hml, hown, hts, hlk, hK, hA, hL, hX⟩ := id X
  replace hf : (f_M_gather_145 rec7 rec17 rec39 K l7 l6 l5 l4 l3 l2 l1 0 F B) = some (r, F9, B9) := hf
  refine lv_iconst (v := iI 0) hx hb d_15_116_144 rfl ?_
  exact b_M_gather_145 X hrec7 hrec17 hrec39 hf hZ hS (lv_sub hl [0, 1, 2, 3, 4, 5, 6, 7] rfl)

def f_M_gather_103 (rec7 : Int → Int → zF → zB → zO) (rec17 : Int → Int → Int → zF → zB → zO) (rec39 : Int → Int → Int → Int → Int → zF → zB → zO) (K : Nat) (l7 : Int) (l6 : Int) (l5 : Int) (l4 : Int) (l3 : Int) (l2 : Int) (l1 : Int) (F : zF) (B : zB) : zO := if 0 ≤ l1 ∧ l1 < 3 then if 0 ≤ l4 ∧ l4 < 4000 then if r32 (zand (B 13 l1 18 l4) 64) then (if (zand (B 13 l1 18 l4) 64) ≤ 0 then f_M_gather_144 rec7 rec17 rec39 K l7 l6 l5 l4 l3 l2 l1 F B else if r32 (B 13 l1 21 l4) then (if (B 13 l1 21 l4) = 1 then zbind (f_M_ties K l1 l4 l6 l7 F B) (fun r28 F28 B28 => if r32 r28 then (if r28 = 0 then f_M_gather_145 rec7 rec17 rec39 K l7 l6 l5 l4 l3 l2 l1 1 F28 B28 else f_M_gather_144 rec7 rec17 rec39 K l7 l6 l5 l4 l3 l2 l1 F28 B28) else none) else f_M_gather_144 rec7 rec17 rec39 K l7 l6 l5 l4 l3 l2 l1 F B) else none) else none else none else none
set_option maxHeartbeats 4000000 in
set_option maxRecDepth 100000 in
theorem b_M_gather_103 {D : va_G} {ca : Nat → ClassId} {ad : Nat → Int → Nat → Nat} {L : List Nat} {aS vS : Nat → Nat} {A : Nat → Prop} {p : Program} {l : Launch} {e : Env} {s : State} {m : MethodId} {args : Array Value} {below : List Frame} {meth : Method} {c : Code} {K : Nat} {r : Int} {F9 : zF} {B9 : zB} (X : zX D ca L aS vS A p s m args meth c prog_15_method_116_code 9 (Option.some Jvm.ClassFile.FieldType.int) "StaveHouseModel") {rec7 : Int → Int → zF → zB → zO} {rec17 : Int → Int → Int → zF → zB → zO} {rec39 : Int → Int → Int → Int → Int → zF → zB → zO} (hrec7 : ∀ {l2 : Int} {l1 : Int} {F : zF} {B : zB} {H : Heap} {locs : List Loc} {ls : Array Slot}, rec7 l2 l1 F B = some (r, F9, B9) → zH D ca ad lnM nM L F B A H → va_S A s.heap H locs → lv_has ls 9 [(2, .int (iI l2)), (0, .ref (ad 14 0 0)), (1, .ref (ad 13 l1 0))] → W p l e ({ frames := 5, cells := 0, slots := 0, locals := 140 } : Room) s m args below meth c H locs 0 0 (MQ below (Q_M_gather D ca ad L r F9 B9 A) args s 0 0 A) (F0 m 7 ls [])) (hrec17 : ∀ {l3 : Int} {l2 : Int} {l1 : Int} {F : zF} {B : zB} {H : Heap} {locs : List Loc} {ls : Array Slot}, rec17 l3 l2 l1 F B = some (r, F9, B9) → zH D ca ad lnM nM L F B A H → va_S A s.heap H locs → lv_has ls 9 [(3, .int (iI l3)), (2, .int (iI l2)), (0, .ref (ad 14 0 0)), (1, .ref (ad 13 l1 0))] → W p l e ({ frames := 5, cells := 0, slots := 0, locals := 140 } : Room) s m args below meth c H locs 0 0 (MQ below (Q_M_gather D ca ad L r F9 B9 A) args s 0 0 A) (F0 m 17 ls [])) (hrec39 : ∀ {l5 : Int} {l4 : Int} {l3 : Int} {l2 : Int} {l1 : Int} {F : zF} {B : zB} {H : Heap} {locs : List Loc} {ls : Array Slot}, rec39 l5 l4 l3 l2 l1 F B = some (r, F9, B9) → zH D ca ad lnM nM L F B A H → va_S A s.heap H locs → lv_has ls 9 [(5, .int (iI l5)), (4, .int (iI l4)), (3, .int (iI l3)), (2, .int (iI l2)), (0, .ref (ad 14 0 0)), (1, .ref (ad 13 l1 0))] → W p l e ({ frames := 5, cells := 0, slots := 0, locals := 140 } : Room) s m args below meth c H locs 0 0 (MQ below (Q_M_gather D ca ad L r F9 B9 A) args s 0 0 A) (F0 m 39 ls [])) {l7 : Int} {l6 : Int} {l5 : Int} {l4 : Int} {l3 : Int} {l2 : Int} {l1 : Int} {F : zF} {B : zB} {H : Heap} {locs : List Loc} {ls : Array Slot} (hf : f_M_gather_103 rec7 rec17 rec39 K l7 l6 l5 l4 l3 l2 l1 F B = some (r, F9, B9)) (hZ : zH D ca ad lnM nM L F B A H) (hS : va_S A s.heap H locs) (hl : lv_has ls 9 [(7, .int (iI l7)), (6, .int (iI l6)), (5, .int (iI l5)), (4, .int (iI l4)), (3, .int (iI l3)), (2, .int (iI l2)), (0, .ref (ad 14 0 0)), (1, .ref (ad 13 l1 0))]) : W p l e ({ frames := 5, cells := 0, slots := 0, locals := 140 } : Room) s m args below meth c H locs 0 0 (MQ below (Q_M_gather D ca ad L r F9 B9 A) args s 0 0 A) (F0 m 103 ls []) := by
  obtain ⟨hx, hb, hr, hml, hown, hts, hlk, hK, hA, hL, hX⟩ := id X
  replace hf : (if 0 ≤ l1 ∧ l1 < 3 then if 0 ≤ l4 ∧ l4 < 4000 then if r32 (zand (B 13 l1 18 l4) 64) then (if (zand (B 13 l1 18 l4) 64) ≤ 0 then f_M_gather_144 rec7 rec17 rec39 K l7 l6 l5 l4 l3 l2 l1 F B else if r32 (B 13 l1 21 l4) then (if (B 13 l1 21 l4) = 1 then zbind (f_M_ties K l1 l4 l6 l7 F B) (fun r28 F28 B28 => if r32 r28 then (if r28 = 0 then f_M_gather_145 rec7 rec17 rec39 K l7 l6 l5 l4 l3 l2 l1 1 F28 B28 else f_M_gather_144 rec7 rec17 rec39 K l7 l6 l5 l4 l3 l2 l1 F28 B28) else none) else f_M_gather_144 rec7 rec17 rec39 K l7 l6 l5 l4 l3 l2 l1 F B) else none) else none else none else none) = some (r, F9, B9) := hf
  refine lv_aload_n hx hb d_15_116_103 rfl (lv_at hl 7 rfl) ?_
  obtain ⟨g22, hf⟩ := gif hf
  refine zget (ci := 13) (C := RX13) (T := TX13) (v := .ref (ad 13 l1 (18 + 1))) (k := 18) hx hb hts inW_13 hown hK hZ g22.1 g22.2 rfl (by decide) k_9_154 rfl d_15_116_104 ?_
  refine lv_iload hx hb d_15_116_107 (lv_at hl 3 rfl) ?_
  obtain ⟨g23, hf⟩ := gif hf
  refine zald (ci := 13) (k := 18) hx hb hK rfl hZ g22.1 g22.2 rfl (Nat.le_of_ble_eq_true rfl) g23.1 g23.2 d_15_116_109 ?_
  refine lv_bipush (v := iI 64) hx hb d_15_116_110 (by decide) ?_
  refine zand_r hx hb d_15_116_112 ?_
  obtain ⟨g24, hf⟩ := gif hf
  refine z0le (tgt := 144) hx hb g24 d_15_116_113 (by decide) (fun h25 => ?_) (fun h25 => ?_)
  · replace hf := gpos hf h25
    exact b_M_gather_144 X hrec7 hrec17 hrec39 hf hZ hS (lv_sub hl [0, 1, 2, 3, 4, 5, 6, 7] rfl)
  · replace hf := gneg hf h25
    refine lv_aload_n hx hb d_15_116_116 rfl (lv_at hl 7 rfl) ?_
    refine zget (ci := 13) (C := RX13) (T := TX13) (v := .ref (ad 13 l1 (21 + 1))) (k := 21) hx hb hts inW_13 hown hK hZ g22.1 g22.2 rfl (by decide) k_9_160 rfl d_15_116_117 ?_
    refine lv_iload hx hb d_15_116_120 (lv_at hl 3 rfl) ?_
    refine zald (ci := 13) (k := 21) hx hb hK rfl hZ g22.1 g22.2 rfl (Nat.le_of_ble_eq_true rfl) g23.1 g23.2 d_15_116_122 ?_
    refine lv_iconst (v := iI 1) hx hb d_15_116_123 rfl ?_
    obtain ⟨g26, hf⟩ := gif hf
    refine zne (tgt := 144) hx hb g26 (by decide) d_15_116_124 (by decide) (fun h27 => ?_) (fun h27 => ?_)
    · replace hf := gneg hf h27
      exact b_M_gather_144 X hrec7 hrec17 hrec39 hf hZ hS (lv_sub hl [0, 1, 2, 3, 4, 5, 6, 7] rfl)
    · replace hf := gpos hf h27
      refine lv_aload_n hx hb d_15_116_127 rfl (lv_at hl 7 rfl) ?_
      refine lv_iload hx hb d_15_116_128 (lv_at hl 3 rfl) ?_
      refine lv_iload hx hb d_15_116_130 (lv_at hl 1 rfl) ?_
      refine lv_iload hx hb d_15_116_132 (lv_at hl 0 rfl) ?_
      obtain ⟨r28, F28, B28, hc28, hf⟩ := gbind hf
      refine va_calli (va_runS (As := [.ref (ad 13 l1 0), .int (iI l4), .int (iI l6), .int (iI l7)]) (rest := []) ⟨hx, hb, hml, hown, hts⟩ (c_M_ties (l := l) hc28) (va_cwS 4 hts (gdS k_12_129 k_12_130 k_1_9 k_12_131) rfl rfl rfl (by decide +kernel) ⟨Nat.le_of_ble_eq_true rfl, Nat.le_of_ble_eq_true rfl⟩) (zPS X hZ hS [.ref (ad 13 l1 0), .int (iI l4), .int (iI l6), .int (iI l7)]) rfl rfl hl.1 rfl (lv_room (Nat.le_of_ble_eq_true rfl)) d_15_116_134 ⟨Nat.le_of_ble_eq_true rfl, Nat.le_of_ble_eq_true rfl⟩) hS (fun q _ h => zAin X hS q h) (zAin X hS) (fun p28 u28 t28 H28 locs28 ht28 hv28 hw28 hB28 hz28 hk28 hS28 => ?_)
      have hZ28 := zBack X ht28 hB28
      subst hw28
      obtain ⟨g29, hf⟩ := gif hf
      refine z0ne (tgt := 144) hx hb g29 d_15_116_137 (by decide) (fun h30 => ?_) (fun h30 => ?_)
      · replace hf := gneg hf h30
        exact b_M_gather_144 X hrec7 hrec17 hrec39 hf hZ28 hS28 (lv_sub hl [0, 1, 2, 3, 4, 5, 6, 7] rfl)
      · replace hf := gpos hf h30
        refine lv_iconst (v := iI 1) hx hb d_15_116_140 rfl ?_
        refine lv_goto (tgt := 145) hx hb d_15_116_141 (by decide) ?_
        exact b_M_gather_145 X hrec7 hrec17 hrec39 hf hZ28 hS28 (lv_sub hl [0, 1, 2, 3, 4, 5, 6, 7] rfl)

def f_M_gather_39 (rec7 : Int → Int → zF → zB → zO) (rec17 : Int → Int → Int → zF → zB → zO) (K : Nat) : Nat → Int → Int → Int → Int → Int → zF → zB → zO
  | 0, _, _, _, _, _, _, _ => none
  | n + 1, l5, l4, l3, l2, l1, F, B => if 0 ≤ l1 ∧ l1 < 3 then if 0 ≤ l4 ∧ l4 < 4000 then if r32 l5 then if r32 (B 13 l1 21 l4) then (if (B 13 l1 21 l4) ≤ l5 then rec17 (l3 + 1) l2 l1 F B else if 0 ≤ ((6 * l4) + l5) ∧ ((6 * l4) + l5) < 24000 then if r32 l3 then (if l3 ≤ 0 then f_M_gather_103 rec7 rec17 (f_M_gather_39 rec7 rec17 K n) K (B 13 l1 29 ((6 * l4) + l5)) (B 13 l1 28 ((6 * l4) + l5)) l5 l4 l3 l2 l1 F B else zbind (f_M_ties K l1 (l4 - 1) (B 13 l1 28 ((6 * l4) + l5)) (B 13 l1 29 ((6 * l4) + l5)) F B) (fun r19 F19 B19 => if r32 r19 then (if r19 = 0 then f_M_gather_103 rec7 rec17 (f_M_gather_39 rec7 rec17 K n) K (B 13 l1 29 ((6 * l4) + l5)) (B 13 l1 28 ((6 * l4) + l5)) l5 l4 l3 l2 l1 F19 B19 else f_M_gather_177 rec7 rec17 (f_M_gather_39 rec7 rec17 K n) K l5 l4 l3 l2 l1 F19 B19) else none)) else none else none) else none else none else none else none
set_option maxHeartbeats 4000000 in
set_option maxRecDepth 100000 in
theorem b_M_gather_39 {D : va_G} {ca : Nat → ClassId} {ad : Nat → Int → Nat → Nat} {L : List Nat} {aS vS : Nat → Nat} {A : Nat → Prop} {p : Program} {l : Launch} {e : Env} {s : State} {m : MethodId} {args : Array Value} {below : List Frame} {meth : Method} {c : Code} {K : Nat} {r : Int} {F9 : zF} {B9 : zB} (X : zX D ca L aS vS A p s m args meth c prog_15_method_116_code 9 (Option.some Jvm.ClassFile.FieldType.int) "StaveHouseModel") {rec7 : Int → Int → zF → zB → zO} {rec17 : Int → Int → Int → zF → zB → zO} (hrec7 : ∀ {l2 : Int} {l1 : Int} {F : zF} {B : zB} {H : Heap} {locs : List Loc} {ls : Array Slot}, rec7 l2 l1 F B = some (r, F9, B9) → zH D ca ad lnM nM L F B A H → va_S A s.heap H locs → lv_has ls 9 [(2, .int (iI l2)), (0, .ref (ad 14 0 0)), (1, .ref (ad 13 l1 0))] → W p l e ({ frames := 5, cells := 0, slots := 0, locals := 140 } : Room) s m args below meth c H locs 0 0 (MQ below (Q_M_gather D ca ad L r F9 B9 A) args s 0 0 A) (F0 m 7 ls [])) (hrec17 : ∀ {l3 : Int} {l2 : Int} {l1 : Int} {F : zF} {B : zB} {H : Heap} {locs : List Loc} {ls : Array Slot}, rec17 l3 l2 l1 F B = some (r, F9, B9) → zH D ca ad lnM nM L F B A H → va_S A s.heap H locs → lv_has ls 9 [(3, .int (iI l3)), (2, .int (iI l2)), (0, .ref (ad 14 0 0)), (1, .ref (ad 13 l1 0))] → W p l e ({ frames := 5, cells := 0, slots := 0, locals := 140 } : Room) s m args below meth c H locs 0 0 (MQ below (Q_M_gather D ca ad L r F9 B9 A) args s 0 0 A) (F0 m 17 ls [])) : ∀ {n : Nat} {l5 : Int} {l4 : Int} {l3 : Int} {l2 : Int} {l1 : Int} {F : zF} {B : zB} {H : Heap} {locs : List Loc} {ls : Array Slot}, f_M_gather_39 rec7 rec17 K n l5 l4 l3 l2 l1 F B = some (r, F9, B9) → zH D ca ad lnM nM L F B A H → va_S A s.heap H locs → lv_has ls 9 [(5, .int (iI l5)), (4, .int (iI l4)), (3, .int (iI l3)), (2, .int (iI l2)), (0, .ref (ad 14 0 0)), (1, .ref (ad 13 l1 0))] → W p l e ({ frames := 5, cells := 0, slots := 0, locals := 140 } : Room) s m args below meth c H locs 0 0 (MQ below (Q_M_gather D ca ad L r F9 B9 A) args s 0 0 A) (F0 m 39 ls []) := by
  obtain ⟨hx, hb, hr, hml, hown, hts, hlk, hK, hA, hL, hX⟩ := id X
  intro n
  induction n with
  | zero =>
    intros
    rename_i hf _ _ _
    cases hf
  | succ n ih =>
    intro l5 l4 l3 l2 l1 F B H locs ls hf hZ hS hl
    replace hf : (if 0 ≤ l1 ∧ l1 < 3 then if 0 ≤ l4 ∧ l4 < 4000 then if r32 l5 then if r32 (B 13 l1 21 l4) then (if (B 13 l1 21 l4) ≤ l5 then rec17 (l3 + 1) l2 l1 F B else if 0 ≤ ((6 * l4) + l5) ∧ ((6 * l4) + l5) < 24000 then if r32 l3 then (if l3 ≤ 0 then f_M_gather_103 rec7 rec17 (f_M_gather_39 rec7 rec17 K n) K (B 13 l1 29 ((6 * l4) + l5)) (B 13 l1 28 ((6 * l4) + l5)) l5 l4 l3 l2 l1 F B else zbind (f_M_ties K l1 (l4 - 1) (B 13 l1 28 ((6 * l4) + l5)) (B 13 l1 29 ((6 * l4) + l5)) F B) (fun r19 F19 B19 => if r32 r19 then (if r19 = 0 then f_M_gather_103 rec7 rec17 (f_M_gather_39 rec7 rec17 K n) K (B 13 l1 29 ((6 * l4) + l5)) (B 13 l1 28 ((6 * l4) + l5)) l5 l4 l3 l2 l1 F19 B19 else f_M_gather_177 rec7 rec17 (f_M_gather_39 rec7 rec17 K n) K l5 l4 l3 l2 l1 F19 B19) else none)) else none else none) else none else none else none else none) = some (r, F9, B9) := hf
    refine lv_iload hx hb d_15_116_39 (lv_at hl 0 rfl) ?_
    refine lv_aload_n hx hb d_15_116_41 rfl (lv_at hl 5 rfl) ?_
    obtain ⟨g11, hf⟩ := gif hf
    refine zget (ci := 13) (C := RX13) (T := TX13) (v := .ref (ad 13 l1 (21 + 1))) (k := 21) hx hb hts inW_13 hown hK hZ g11.1 g11.2 rfl (by decide) k_9_160 rfl d_15_116_42 ?_
    refine lv_iload hx hb d_15_116_45 (lv_at hl 1 rfl) ?_
    obtain ⟨g12, hf⟩ := gif hf
    refine zald (ci := 13) (k := 21) hx hb hK rfl hZ g11.1 g11.2 rfl (Nat.le_of_ble_eq_true rfl) g12.1 g12.2 d_15_116_47 ?_
    obtain ⟨g13, hf⟩ := gif hf
    obtain ⟨g14, hf⟩ := gif hf
    refine zge (tgt := 183) hx hb g13 g14 d_15_116_48 (by decide) (fun h15 => ?_) (fun h15 => ?_)
    · replace hf := gpos hf h15
      refine lv_iinc (v := iI (l3 + 1)) (lv' := [(3, .int (iI (l3 + 1))), (5, .int (iI l5)), (4, .int (iI l4)), (2, .int (iI l2)), (0, .ref (ad 14 0 0)), (1, .ref (ad 13 l1 0))]) hx hb d_15_116_183 hl (k := 2) rfl (iI_add _ 1) (by decide) rfl (fun ls hl => ?_)
      refine lv_goto (tgt := 17) hx hb d_15_116_186 (by decide) ?_
      exact hrec17 hf hZ hS (lv_sub hl [0, 3, 4, 5] rfl)
    · replace hf := gneg hf h15
      refine lv_aload_n hx hb d_15_116_51 rfl (lv_at hl 5 rfl) ?_
      refine zget (ci := 13) (C := RX13) (T := TX13) (v := .ref (ad 13 l1 (28 + 1))) (k := 28) hx hb hts inW_13 hown hK hZ g11.1 g11.2 rfl (by decide) k_9_174 rfl d_15_116_52 ?_
      refine lv_bipush (v := iI 6) hx hb d_15_116_55 (by decide) ?_
      refine lv_iload hx hb d_15_116_57 (lv_at hl 1 rfl) ?_
      refine zmul hx hb d_15_116_59 ?_
      refine lv_iload hx hb d_15_116_60 (lv_at hl 0 rfl) ?_
      refine zadd hx hb d_15_116_62 ?_
      obtain ⟨g16, hf⟩ := gif hf
      refine zald (ci := 13) (k := 28) hx hb hK rfl hZ g11.1 g11.2 rfl (Nat.le_of_ble_eq_true rfl) g16.1 g16.2 d_15_116_63 ?_
      refine lv_istore (lv' := [(6, .int (iI (B 13 l1 28 ((6 * l4) + l5)))), (5, .int (iI l5)), (4, .int (iI l4)), (3, .int (iI l3)), (2, .int (iI l2)), (0, .ref (ad 14 0 0)), (1, .ref (ad 13 l1 0))]) hx hb d_15_116_64 hl (by decide) rfl (fun ls hl => ?_)
      refine lv_aload_n hx hb d_15_116_66 rfl (lv_at hl 6 rfl) ?_
      refine zget (ci := 13) (C := RX13) (T := TX13) (v := .ref (ad 13 l1 (29 + 1))) (k := 29) hx hb hts inW_13 hown hK hZ g11.1 g11.2 rfl (by decide) k_9_176 rfl d_15_116_67 ?_
      refine lv_bipush (v := iI 6) hx hb d_15_116_70 (by decide) ?_
      refine lv_iload hx hb d_15_116_72 (lv_at hl 2 rfl) ?_
      refine zmul hx hb d_15_116_74 ?_
      refine lv_iload hx hb d_15_116_75 (lv_at hl 1 rfl) ?_
      refine zadd hx hb d_15_116_77 ?_
      refine zald (ci := 13) (k := 29) hx hb hK rfl hZ g11.1 g11.2 rfl (Nat.le_of_ble_eq_true rfl) g16.1 g16.2 d_15_116_78 ?_
      refine lv_istore (lv' := [(7, .int (iI (B 13 l1 29 ((6 * l4) + l5)))), (6, .int (iI (B 13 l1 28 ((6 * l4) + l5)))), (5, .int (iI l5)), (4, .int (iI l4)), (3, .int (iI l3)), (2, .int (iI l2)), (0, .ref (ad 14 0 0)), (1, .ref (ad 13 l1 0))]) hx hb d_15_116_79 hl (by decide) rfl (fun ls hl => ?_)
      refine lv_iload_n hx hb d_15_116_81 rfl (lv_at hl 4 rfl) ?_
      obtain ⟨g17, hf⟩ := gif hf
      refine z0le (tgt := 103) hx hb g17 d_15_116_82 (by decide) (fun h18 => ?_) (fun h18 => ?_)
      · replace hf := gpos hf h18
        exact b_M_gather_103 X hrec7 hrec17 ih hf hZ hS (lv_sub hl [0, 1, 2, 3, 4, 5, 6, 7] rfl)
      · replace hf := gneg hf h18
        refine lv_aload_n hx hb d_15_116_85 rfl (lv_at hl 7 rfl) ?_
        refine lv_iload hx hb d_15_116_86 (lv_at hl 3 rfl) ?_
        refine lv_iconst (v := iI 1) hx hb d_15_116_88 rfl ?_
        refine zsub hx hb d_15_116_89 ?_
        refine lv_iload hx hb d_15_116_90 (lv_at hl 1 rfl) ?_
        refine lv_iload hx hb d_15_116_92 (lv_at hl 0 rfl) ?_
        obtain ⟨r19, F19, B19, hc19, hf⟩ := gbind hf
        refine va_calli (va_runS (As := [.ref (ad 13 l1 0), .int (iI (l4 - 1)), .int (iI (B 13 l1 28 ((6 * l4) + l5))), .int (iI (B 13 l1 29 ((6 * l4) + l5)))]) (rest := []) ⟨hx, hb, hml, hown, hts⟩ (c_M_ties (l := l) hc19) (va_cwS 4 hts (gdS k_12_129 k_12_130 k_1_9 k_12_131) rfl rfl rfl (by decide +kernel) ⟨Nat.le_of_ble_eq_true rfl, Nat.le_of_ble_eq_true rfl⟩) (zPS X hZ hS [.ref (ad 13 l1 0), .int (iI (l4 - 1)), .int (iI (B 13 l1 28 ((6 * l4) + l5))), .int (iI (B 13 l1 29 ((6 * l4) + l5)))]) rfl rfl hl.1 rfl (lv_room (Nat.le_of_ble_eq_true rfl)) d_15_116_94 ⟨Nat.le_of_ble_eq_true rfl, Nat.le_of_ble_eq_true rfl⟩) hS (fun q _ h => zAin X hS q h) (zAin X hS) (fun p19 u19 t19 H19 locs19 ht19 hv19 hw19 hB19 hz19 hk19 hS19 => ?_)
        have hZ19 := zBack X ht19 hB19
        subst hw19
        obtain ⟨g20, hf⟩ := gif hf
        refine z0eq (tgt := 103) hx hb g20 d_15_116_97 (by decide) (fun h21 => ?_) (fun h21 => ?_)
        · replace hf := gpos hf h21
          exact b_M_gather_103 X hrec7 hrec17 ih hf hZ19 hS19 (lv_sub hl [0, 1, 2, 3, 4, 5, 6, 7] rfl)
        · replace hf := gneg hf h21
          refine lv_goto (tgt := 177) hx hb d_15_116_100 (by decide) ?_
          exact b_M_gather_177 X hrec7 hrec17 ih hf hZ19 hS19 (lv_sub hl [2, 3, 4, 5, 6, 7] rfl)

def f_M_gather_17 (rec7 : Int → Int → zF → zB → zO) (K : Nat) : Nat → Int → Int → Int → zF → zB → zO
  | 0, _, _, _, _, _ => none
  | n + 1, l3, l2, l1, F, B => if 0 ≤ l1 ∧ l1 < 3 then if 0 ≤ l2 ∧ l2 < 4 then if r32 l3 then if r32 (B 13 l1 12 l2) then (if (B 13 l1 12 l2) ≤ l3 then rec7 (l2 + 1) l1 F B else f_M_gather_39 rec7 (f_M_gather_17 rec7 K n) K K 0 ((1000 * l2) + l3) l3 l2 l1 F B) else none else none else none else none
set_option maxHeartbeats 4000000 in
set_option maxRecDepth 100000 in
theorem b_M_gather_17 {D : va_G} {ca : Nat → ClassId} {ad : Nat → Int → Nat → Nat} {L : List Nat} {aS vS : Nat → Nat} {A : Nat → Prop} {p : Program} {l : Launch} {e : Env} {s : State} {m : MethodId} {args : Array Value} {below : List Frame} {meth : Method} {c : Code} {K : Nat} {r : Int} {F9 : zF} {B9 : zB} (X : zX D ca L aS vS A p s m args meth c prog_15_method_116_code 9 (Option.some Jvm.ClassFile.FieldType.int) "StaveHouseModel") {rec7 : Int → Int → zF → zB → zO} (hrec7 : ∀ {l2 : Int} {l1 : Int} {F : zF} {B : zB} {H : Heap} {locs : List Loc} {ls : Array Slot}, rec7 l2 l1 F B = some (r, F9, B9) → zH D ca ad lnM nM L F B A H → va_S A s.heap H locs → lv_has ls 9 [(2, .int (iI l2)), (0, .ref (ad 14 0 0)), (1, .ref (ad 13 l1 0))] → W p l e ({ frames := 5, cells := 0, slots := 0, locals := 140 } : Room) s m args below meth c H locs 0 0 (MQ below (Q_M_gather D ca ad L r F9 B9 A) args s 0 0 A) (F0 m 7 ls [])) : ∀ {n : Nat} {l3 : Int} {l2 : Int} {l1 : Int} {F : zF} {B : zB} {H : Heap} {locs : List Loc} {ls : Array Slot}, f_M_gather_17 rec7 K n l3 l2 l1 F B = some (r, F9, B9) → zH D ca ad lnM nM L F B A H → va_S A s.heap H locs → lv_has ls 9 [(3, .int (iI l3)), (2, .int (iI l2)), (0, .ref (ad 14 0 0)), (1, .ref (ad 13 l1 0))] → W p l e ({ frames := 5, cells := 0, slots := 0, locals := 140 } : Room) s m args below meth c H locs 0 0 (MQ below (Q_M_gather D ca ad L r F9 B9 A) args s 0 0 A) (F0 m 17 ls []) := by
  obtain ⟨hx, hb, hr, hml, hown, hts, hlk, hK, hA, hL, hX⟩ := id X
  intro n
  induction n with
  | zero =>
    intros
    rename_i hf _ _ _
    cases hf
  | succ n ih =>
    intro l3 l2 l1 F B H locs ls hf hZ hS hl
    replace hf : (if 0 ≤ l1 ∧ l1 < 3 then if 0 ≤ l2 ∧ l2 < 4 then if r32 l3 then if r32 (B 13 l1 12 l2) then (if (B 13 l1 12 l2) ≤ l3 then rec7 (l2 + 1) l1 F B else f_M_gather_39 rec7 (f_M_gather_17 rec7 K n) K K 0 ((1000 * l2) + l3) l3 l2 l1 F B) else none else none else none else none) = some (r, F9, B9) := hf
    refine lv_iload_n hx hb d_15_116_17 rfl (lv_at hl 0 rfl) ?_
    refine lv_aload_n hx hb d_15_116_18 rfl (lv_at hl 3 rfl) ?_
    obtain ⟨g6, hf⟩ := gif hf
    refine zget (ci := 13) (C := RX13) (T := TX13) (v := .ref (ad 13 l1 (12 + 1))) (k := 12) hx hb hts inW_13 hown hK hZ g6.1 g6.2 rfl (by decide) k_9_142 rfl d_15_116_19 ?_
    refine lv_iload_n hx hb d_15_116_22 rfl (lv_at hl 1 rfl) ?_
    obtain ⟨g7, hf⟩ := gif hf
    refine zald (ci := 13) (k := 12) hx hb hK rfl hZ g6.1 g6.2 rfl (Nat.le_of_ble_eq_true rfl) g7.1 g7.2 d_15_116_23 ?_
    obtain ⟨g8, hf⟩ := gif hf
    obtain ⟨g9, hf⟩ := gif hf
    refine zge (tgt := 189) hx hb g8 g9 d_15_116_24 (by decide) (fun h10 => ?_) (fun h10 => ?_)
    · replace hf := gpos hf h10
      refine lv_iinc (v := iI (l2 + 1)) (lv' := [(2, .int (iI (l2 + 1))), (3, .int (iI l3)), (0, .ref (ad 14 0 0)), (1, .ref (ad 13 l1 0))]) hx hb d_15_116_189 hl (k := 1) rfl (iI_add _ 1) (by decide) rfl (fun ls hl => ?_)
      refine lv_goto (tgt := 7) hx hb d_15_116_192 (by decide) ?_
      exact hrec7 hf hZ hS (lv_sub hl [0, 2, 3] rfl)
    · replace hf := gneg hf h10
      refine lv_sipush (v := iI 1000) hx hb d_15_116_27 (by decide) ?_
      refine lv_iload_n hx hb d_15_116_30 rfl (lv_at hl 1 rfl) ?_
      refine zmul hx hb d_15_116_31 ?_
      refine lv_iload_n hx hb d_15_116_32 rfl (lv_at hl 0 rfl) ?_
      refine zadd hx hb d_15_116_33 ?_
      refine lv_istore (lv' := [(4, .int (iI ((1000 * l2) + l3))), (3, .int (iI l3)), (2, .int (iI l2)), (0, .ref (ad 14 0 0)), (1, .ref (ad 13 l1 0))]) hx hb d_15_116_34 hl (by decide) rfl (fun ls hl => ?_)
      refine lv_iconst (v := iI 0) hx hb d_15_116_36 rfl ?_
      refine lv_istore (lv' := [(5, .int (iI 0)), (4, .int (iI ((1000 * l2) + l3))), (3, .int (iI l3)), (2, .int (iI l2)), (0, .ref (ad 14 0 0)), (1, .ref (ad 13 l1 0))]) hx hb d_15_116_37 hl (by decide) rfl (fun ls hl => ?_)
      exact b_M_gather_39 X hrec7 ih hf hZ hS (lv_sub hl [0, 1, 2, 3, 4, 5] rfl)

def f_M_gather_7 (K : Nat) : Nat → Int → Int → zF → zB → zO
  | 0, _, _, _, _ => none
  | n + 1, l2, l1, F, B => if 0 ≤ l1 ∧ l1 < 3 then if r32 l2 then if r32 (F 13 l1 1) then (if (F 13 l1 1) ≤ l2 then some (F 14 0 62, F, B) else f_M_gather_17 (f_M_gather_7 K n) K K 0 l2 l1 F B) else none else none else none
set_option maxHeartbeats 4000000 in
set_option maxRecDepth 100000 in
theorem b_M_gather_7 {D : va_G} {ca : Nat → ClassId} {ad : Nat → Int → Nat → Nat} {L : List Nat} {aS vS : Nat → Nat} {A : Nat → Prop} {p : Program} {l : Launch} {e : Env} {s : State} {m : MethodId} {args : Array Value} {below : List Frame} {meth : Method} {c : Code} {K : Nat} {r : Int} {F9 : zF} {B9 : zB} (X : zX D ca L aS vS A p s m args meth c prog_15_method_116_code 9 (Option.some Jvm.ClassFile.FieldType.int) "StaveHouseModel") : ∀ {n : Nat} {l2 : Int} {l1 : Int} {F : zF} {B : zB} {H : Heap} {locs : List Loc} {ls : Array Slot}, f_M_gather_7 K n l2 l1 F B = some (r, F9, B9) → zH D ca ad lnM nM L F B A H → va_S A s.heap H locs → lv_has ls 9 [(2, .int (iI l2)), (0, .ref (ad 14 0 0)), (1, .ref (ad 13 l1 0))] → W p l e ({ frames := 5, cells := 0, slots := 0, locals := 140 } : Room) s m args below meth c H locs 0 0 (MQ below (Q_M_gather D ca ad L r F9 B9 A) args s 0 0 A) (F0 m 7 ls []) := by
  obtain ⟨hx, hb, hr, hml, hown, hts, hlk, hK, hA, hL, hX⟩ := id X
  intro n
  induction n with
  | zero =>
    intros
    rename_i hf _ _ _
    cases hf
  | succ n ih =>
    intro l2 l1 F B H locs ls hf hZ hS hl
    replace hf : (if 0 ≤ l1 ∧ l1 < 3 then if r32 l2 then if r32 (F 13 l1 1) then (if (F 13 l1 1) ≤ l2 then some (F 14 0 62, F, B) else f_M_gather_17 (f_M_gather_7 K n) K K 0 l2 l1 F B) else none else none else none) = some (r, F9, B9) := hf
    refine lv_iload_n hx hb d_15_116_7 rfl (lv_at hl 0 rfl) ?_
    refine lv_aload_n hx hb d_15_116_8 rfl (lv_at hl 2 rfl) ?_
    obtain ⟨g2, hf⟩ := gif hf
    refine zget (ci := 13) (C := RX13) (T := TX13) (v := .int (iI (F 13 l1 1))) (k := 1) hx hb hts inW_13 hown hK hZ g2.1 g2.2 rfl (by decide) k_9_126 rfl d_15_116_9 ?_
    obtain ⟨g3, hf⟩ := gif hf
    obtain ⟨g4, hf⟩ := gif hf
    refine zge (tgt := 195) hx hb g3 g4 d_15_116_12 (by decide) (fun h5 => ?_) (fun h5 => ?_)
    · replace hf := gpos hf h5
      refine lv_aload_n hx hb d_15_116_195 rfl (lv_at hl 1 rfl) ?_
      refine zget (ci := 14) (C := RX14) (T := TX14) (v := .int (iI (F 14 0 62))) (k := 62) hx hb hts inW_14 hown hK hZ (by decide) (by decide) rfl (by decide) k_11_60 rfl d_15_116_196 ?_
      cases hf
      exact W.iret hx hb hr (fun t ht hW => ⟨⟨_, (), rfl, rfl, by rw [ht]; exact hZ, va_K.moved hW.alike hK⟩, hS.F ht⟩) hS.2.2 d_15_116_199 hlk
    · replace hf := gneg hf h5
      refine lv_iconst (v := iI 0) hx hb d_15_116_15 rfl ?_
      refine lv_istore_n (lv' := [(3, .int (iI 0)), (2, .int (iI l2)), (0, .ref (ad 14 0 0)), (1, .ref (ad 13 l1 0))]) hx hb d_15_116_16 rfl hl (by decide) rfl (fun ls hl => ?_)
      exact b_M_gather_17 X ih hf hZ hS (lv_sub hl [0, 1, 2, 3] rfl)

def f_M_gather (K : Nat) (l1 : Int) (F : zF) (B : zB) : zO := f_M_gather_7 K K 0 l1 (zup3 F 14 0 62 0) B
set_option maxHeartbeats 4000000 in
set_option maxRecDepth 100000 in
theorem c_M_gather {l : Launch} {D : va_G} {ca : Nat → ClassId} {ad : Nat → Int → Nat → Nat} {L : List Nat} {aS vS : Nat → Nat} {sz K : Nat} {l1 : Int} {F F9 : zF} {B B9 : zB} {r : Int} (hf : f_M_gather K l1 F B = some (r, F9, B9)) : Met l ({ cls := "StaveHouseModel", name := "gather", desc := "(LStaveHouseModel$Piece;)I" } : Jvm.MethodName) (Cond.code ({ cls := "StaveHouseModel", name := "gather", desc := "(LStaveHouseModel$Piece;)I" } : Jvm.MethodName) prog_15_method_116_code 9 (Option.some Jvm.ClassFile.FieldType.int) :: wAll) ({ frames := 5, cells := 0, slots := 0, locals := 140 } : Room) (va_Pc [.ref (ad 14 0 0), .ref (ad 13 l1 0)] (zPre D ca ad lnM nM L aS vS F B sz)) (Q_M_gather D ca ad L r F9 B9 (zA L sz)) 0 0 (zA L sz) := by
  refine zMet (Qc := Q_M_gather D ca ad L r F9 B9) (lv := [(0, .ref (ad 14 0 0)), (1, .ref (ad 13 l1 0))]) (by decide) (Nat.le_of_ble_eq_true rfl) rfl (fun A p e s m below meth c ls X hZ hS hl => ?_)
  obtain ⟨hx, hb, hr, hml, hown, hts, hlk, hK, hA, hL, hX⟩ := id X
  replace hf : (f_M_gather_7 K K 0 l1 (zup3 F 14 0 62 0) B) = some (r, F9, B9) := hf
  refine lv_aload_n hx hb d_15_116_0 rfl (lv_at hl 0 rfl) ?_
  refine lv_iconst (v := iI 0) hx hb d_15_116_1 rfl ?_
  refine zput (ci := 14) (C := RX14) (T := TX14) (k := 62) (v := 0) (w := .int (iI 0)) hx hb hts inW_14 tyX14 tyX14_ok nmX14 hown hK hZ hS (by decide) (by decide) rfl (by decide) k_11_60 rfl (fun G h => congrArg (fun q => Value.int (iI q)) h) rfl rfl d_15_116_2 (fun H1 locs1 hZ1 hS1 => ?_)
  refine lv_iconst (v := iI 0) hx hb d_15_116_5 rfl ?_
  refine lv_istore_n (lv' := [(2, .int (iI 0)), (0, .ref (ad 14 0 0)), (1, .ref (ad 13 l1 0))]) hx hb d_15_116_6 rfl hl (by decide) rfl (fun ls hl => ?_)
  exact b_M_gather_7 X hf hZ1 hS1 (lv_sub hl [0, 1, 2] rfl)

abbrev Q_M_choose (D : va_G) (ca : Nat → ClassId) (ad : Nat → Int → Nat → Nat) (L : List Nat) (r : Int) (F : zF) (B : zB) (A : Nat → Prop) : Array Value → State → Outcome → State → Prop := va_Qi (S := Unit) (fun p _ => p = iI r) (fun _ => zPo D ca ad lnM nM L F B A) A
def f_M_choose_135 (K : Nat) (s0 : Int) (F : zF) (B : zB) : zO := if (s0 = 0 ∨ s0 = 1) then some (s0, F, B) else none
set_option maxHeartbeats 4000000 in
set_option maxRecDepth 100000 in
theorem b_M_choose_135 {D : va_G} {ca : Nat → ClassId} {ad : Nat → Int → Nat → Nat} {L : List Nat} {aS vS : Nat → Nat} {A : Nat → Prop} {p : Program} {l : Launch} {e : Env} {s : State} {m : MethodId} {args : Array Value} {below : List Frame} {meth : Method} {c : Code} {K : Nat} {r : Int} {F9 : zF} {B9 : zB} (X : zX D ca L aS vS A p s m args meth c prog_15_method_84_code 13 (Option.some Jvm.ClassFile.FieldType.boolean) "StaveHouseModel") {s0 : Int} {F : zF} {B : zB} {H : Heap} {locs : List Loc} {ls : Array Slot} (hf : f_M_choose_135 K s0 F B = some (r, F9, B9)) (hZ : zH D ca ad lnM nM L F B A H) (hS : va_S A s.heap H locs) (hl : lv_has ls 13 []) : W p l e ({ frames := 5, cells := 0, slots := 0, locals := 158 } : Room) s m args below meth c H locs 0 0 (MQ below (Q_M_choose D ca ad L r F9 B9 A) args s 0 0 A) (F0 m 135 ls [.int (iI s0)]) := by
  obtain ⟨hx, hb, hr, hml, hown, hts, hlk, hK, hA, hL, hX⟩ := id X
  replace hf : (if (s0 = 0 ∨ s0 = 1) then some (s0, F, B) else none) = some (r, F9, B9) := hf
  obtain ⟨g22, hf⟩ := gif hf
  cases hf
  exact W.zret hx hb hr (zbool g22) (fun t ht hW => ⟨⟨_, (), rfl, rfl, by rw [ht]; exact hZ, va_K.moved hW.alike hK⟩, hS.F ht⟩) hS.2.2 d_15_84_135 hlk

def f_M_choose_112 (rec8 : Int → Int → Int → Int → Int → zF → zB → zO) (rec18 : Int → Int → Int → Int → Int → Int → zF → zB → zO) (K : Nat) (l8 : Int) (l7 : Int) (l5 : Int) (l3 : Int) (l1 : Int) (l2 : Int) (F : zF) (B : zB) : zO := rec18 (l8 + 1) l7 l5 l3 l1 l2 F B
set_option maxHeartbeats 4000000 in
set_option maxRecDepth 100000 in
theorem b_M_choose_112 {D : va_G} {ca : Nat → ClassId} {ad : Nat → Int → Nat → Nat} {L : List Nat} {aS vS : Nat → Nat} {A : Nat → Prop} {p : Program} {l : Launch} {e : Env} {s : State} {m : MethodId} {args : Array Value} {below : List Frame} {meth : Method} {c : Code} {K : Nat} {r : Int} {F9 : zF} {B9 : zB} (X : zX D ca L aS vS A p s m args meth c prog_15_method_84_code 13 (Option.some Jvm.ClassFile.FieldType.boolean) "StaveHouseModel") {rec8 : Int → Int → Int → Int → Int → zF → zB → zO} {rec18 : Int → Int → Int → Int → Int → Int → zF → zB → zO} (hrec8 : ∀ {l7 : Int} {l5 : Int} {l3 : Int} {l1 : Int} {l2 : Int} {F : zF} {B : zB} {H : Heap} {locs : List Loc} {ls : Array Slot}, rec8 l7 l5 l3 l1 l2 F B = some (r, F9, B9) → zH D ca ad lnM nM L F B A H → va_S A s.heap H locs → lv_has ls 13 [(7, .int (iI l7)), (5, .long (lI l5)), (3, .long (lI l3)), (0, .ref (ad 14 0 0)), (1, .ref (ad 13 l1 0)), (2, .int (iI l2))] → W p l e ({ frames := 5, cells := 0, slots := 0, locals := 158 } : Room) s m args below meth c H locs 0 0 (MQ below (Q_M_choose D ca ad L r F9 B9 A) args s 0 0 A) (F0 m 8 ls [])) (hrec18 : ∀ {l8 : Int} {l7 : Int} {l5 : Int} {l3 : Int} {l1 : Int} {l2 : Int} {F : zF} {B : zB} {H : Heap} {locs : List Loc} {ls : Array Slot}, rec18 l8 l7 l5 l3 l1 l2 F B = some (r, F9, B9) → zH D ca ad lnM nM L F B A H → va_S A s.heap H locs → lv_has ls 13 [(8, .int (iI l8)), (7, .int (iI l7)), (5, .long (lI l5)), (3, .long (lI l3)), (0, .ref (ad 14 0 0)), (1, .ref (ad 13 l1 0)), (2, .int (iI l2))] → W p l e ({ frames := 5, cells := 0, slots := 0, locals := 158 } : Room) s m args below meth c H locs 0 0 (MQ below (Q_M_choose D ca ad L r F9 B9 A) args s 0 0 A) (F0 m 18 ls [])) {l8 : Int} {l7 : Int} {l5 : Int} {l3 : Int} {l1 : Int} {l2 : Int} {F : zF} {B : zB} {H : Heap} {locs : List Loc} {ls : Array Slot} (hf : f_M_choose_112 rec8 rec18 K l8 l7 l5 l3 l1 l2 F B = some (r, F9, B9)) (hZ : zH D ca ad lnM nM L F B A H) (hS : va_S A s.heap H locs) (hl : lv_has ls 13 [(8, .int (iI l8)), (7, .int (iI l7)), (5, .long (lI l5)), (3, .long (lI l3)), (0, .ref (ad 14 0 0)), (1, .ref (ad 13 l1 0)), (2, .int (iI l2))]) : W p l e ({ frames := 5, cells := 0, slots := 0, locals := 158 } : Room) s m args below meth c H locs 0 0 (MQ below (Q_M_choose D ca ad L r F9 B9 A) args s 0 0 A) (F0 m 112 ls []) := by
  obtain ⟨hx, hb, hr, hml, hown, hts, hlk, hK, hA, hL, hX⟩ := id X
  replace hf : (rec18 (l8 + 1) l7 l5 l3 l1 l2 F B) = some (r, F9, B9) := hf
  refine lv_iinc (v := iI (l8 + 1)) (lv' := [(8, .int (iI (l8 + 1))), (7, .int (iI l7)), (5, .long (lI l5)), (3, .long (lI l3)), (0, .ref (ad 14 0 0)), (1, .ref (ad 13 l1 0)), (2, .int (iI l2))]) hx hb d_15_84_112 hl (k := 0) rfl (iI_add _ 1) (by decide) rfl (fun ls hl => ?_)
  refine lv_goto (tgt := 18) hx hb d_15_84_115 (by decide) ?_
  exact hrec18 hf hZ hS (lv_sub hl [0, 1, 2, 3, 4, 5, 6] rfl)

def f_M_choose_93 (rec8 : Int → Int → Int → Int → Int → zF → zB → zO) (rec18 : Int → Int → Int → Int → Int → Int → zF → zB → zO) (K : Nat) (l11 : Int) (l9 : Int) (l8 : Int) (l7 : Int) (l1 : Int) (l2 : Int) (F : zF) (B : zB) : zO := f_M_choose_112 rec8 rec18 K l8 l7 l11 l9 l1 l2 (zup3 (zup3 F 14 0 56 l7) 14 0 57 l8) B
set_option maxHeartbeats 4000000 in
set_option maxRecDepth 100000 in
theorem b_M_choose_93 {D : va_G} {ca : Nat → ClassId} {ad : Nat → Int → Nat → Nat} {L : List Nat} {aS vS : Nat → Nat} {A : Nat → Prop} {p : Program} {l : Launch} {e : Env} {s : State} {m : MethodId} {args : Array Value} {below : List Frame} {meth : Method} {c : Code} {K : Nat} {r : Int} {F9 : zF} {B9 : zB} (X : zX D ca L aS vS A p s m args meth c prog_15_method_84_code 13 (Option.some Jvm.ClassFile.FieldType.boolean) "StaveHouseModel") {rec8 : Int → Int → Int → Int → Int → zF → zB → zO} {rec18 : Int → Int → Int → Int → Int → Int → zF → zB → zO} (hrec8 : ∀ {l7 : Int} {l5 : Int} {l3 : Int} {l1 : Int} {l2 : Int} {F : zF} {B : zB} {H : Heap} {locs : List Loc} {ls : Array Slot}, rec8 l7 l5 l3 l1 l2 F B = some (r, F9, B9) → zH D ca ad lnM nM L F B A H → va_S A s.heap H locs → lv_has ls 13 [(7, .int (iI l7)), (5, .long (lI l5)), (3, .long (lI l3)), (0, .ref (ad 14 0 0)), (1, .ref (ad 13 l1 0)), (2, .int (iI l2))] → W p l e ({ frames := 5, cells := 0, slots := 0, locals := 158 } : Room) s m args below meth c H locs 0 0 (MQ below (Q_M_choose D ca ad L r F9 B9 A) args s 0 0 A) (F0 m 8 ls [])) (hrec18 : ∀ {l8 : Int} {l7 : Int} {l5 : Int} {l3 : Int} {l1 : Int} {l2 : Int} {F : zF} {B : zB} {H : Heap} {locs : List Loc} {ls : Array Slot}, rec18 l8 l7 l5 l3 l1 l2 F B = some (r, F9, B9) → zH D ca ad lnM nM L F B A H → va_S A s.heap H locs → lv_has ls 13 [(8, .int (iI l8)), (7, .int (iI l7)), (5, .long (lI l5)), (3, .long (lI l3)), (0, .ref (ad 14 0 0)), (1, .ref (ad 13 l1 0)), (2, .int (iI l2))] → W p l e ({ frames := 5, cells := 0, slots := 0, locals := 158 } : Room) s m args below meth c H locs 0 0 (MQ below (Q_M_choose D ca ad L r F9 B9 A) args s 0 0 A) (F0 m 18 ls [])) {l11 : Int} {l9 : Int} {l8 : Int} {l7 : Int} {l1 : Int} {l2 : Int} {F : zF} {B : zB} {H : Heap} {locs : List Loc} {ls : Array Slot} (hf : f_M_choose_93 rec8 rec18 K l11 l9 l8 l7 l1 l2 F B = some (r, F9, B9)) (hZ : zH D ca ad lnM nM L F B A H) (hS : va_S A s.heap H locs) (hl : lv_has ls 13 [(11, .long (lI l11)), (9, .long (lI l9)), (8, .int (iI l8)), (7, .int (iI l7)), (0, .ref (ad 14 0 0)), (1, .ref (ad 13 l1 0)), (2, .int (iI l2))]) : W p l e ({ frames := 5, cells := 0, slots := 0, locals := 158 } : Room) s m args below meth c H locs 0 0 (MQ below (Q_M_choose D ca ad L r F9 B9 A) args s 0 0 A) (F0 m 93 ls []) := by
  obtain ⟨hx, hb, hr, hml, hown, hts, hlk, hK, hA, hL, hX⟩ := id X
  replace hf : (f_M_choose_112 rec8 rec18 K l8 l7 l11 l9 l1 l2 (zup3 (zup3 F 14 0 56 l7) 14 0 57 l8) B) = some (r, F9, B9) := hf
  refine lv_lload hx hb d_15_84_93 (lv_at hl 1 rfl) ?_
  refine lv_lstore_n (lv' := [(3, .long (lI l9)), (11, .long (lI l11)), (9, .long (lI l9)), (8, .int (iI l8)), (7, .int (iI l7)), (0, .ref (ad 14 0 0)), (1, .ref (ad 13 l1 0)), (2, .int (iI l2))]) hx hb d_15_84_95 rfl hl (by decide) rfl (fun ls hl => ?_)
  refine lv_lload hx hb d_15_84_96 (lv_at hl 1 rfl) ?_
  refine lv_lstore (lv' := [(5, .long (lI l11)), (3, .long (lI l9)), (11, .long (lI l11)), (9, .long (lI l9)), (8, .int (iI l8)), (7, .int (iI l7)), (0, .ref (ad 14 0 0)), (1, .ref (ad 13 l1 0)), (2, .int (iI l2))]) hx hb d_15_84_98 hl (by decide) rfl (fun ls hl => ?_)
  refine lv_aload_n hx hb d_15_84_100 rfl (lv_at hl 6 rfl) ?_
  refine lv_iload hx hb d_15_84_101 (lv_at hl 5 rfl) ?_
  refine zput (ci := 14) (C := RX14) (T := TX14) (k := 56) (v := l7) (w := .int (iI l7)) hx hb hts inW_14 tyX14 tyX14_ok nmX14 hown hK hZ hS (by decide) (by decide) rfl (by decide) k_11_54 rfl (fun G h => congrArg (fun q => Value.int (iI q)) h) rfl rfl d_15_84_103 (fun H20 locs20 hZ20 hS20 => ?_)
  refine lv_aload_n hx hb d_15_84_106 rfl (lv_at hl 6 rfl) ?_
  refine lv_iload hx hb d_15_84_107 (lv_at hl 4 rfl) ?_
  refine zput (ci := 14) (C := RX14) (T := TX14) (k := 57) (v := l8) (w := .int (iI l8)) hx hb hts inW_14 tyX14 tyX14_ok nmX14 hown hK hZ20 hS20 (by decide) (by decide) rfl (by decide) k_11_55 rfl (fun G h => congrArg (fun q => Value.int (iI q)) h) rfl rfl d_15_84_109 (fun H21 locs21 hZ21 hS21 => ?_)
  exact b_M_choose_112 X hrec8 hrec18 hf hZ21 hS21 (lv_sub hl [4, 5, 0, 1, 6, 7, 8] rfl)

def f_M_choose_18 (rec8 : Int → Int → Int → Int → Int → zF → zB → zO) (K : Nat) : Nat → Int → Int → Int → Int → Int → Int → zF → zB → zO
  | 0, _, _, _, _, _, _, _, _ => none
  | n + 1, l8, l7, l5, l3, l1, l2, F, B => if r32 l8 then (if 3 ≤ l8 then rec8 (l7 + 1) l5 l3 l1 l2 F B else zbind (f_M_formUp K l8 F B) (fun r7 F7 B7 => zbind (f_M_formDown K l7 l8 F7 B7) (fun r8 F8 B8 => zbind (f_M_compare K r7 r8 (F8 14 0 52) (F8 14 0 53) F8 B8) (fun r9 F9 B9 => if r32 r9 then (if 0 < r9 then f_M_choose_112 rec8 (f_M_choose_18 rec8 K n) K l8 l7 l5 l3 l1 l2 F9 B9 else zbind (f_M_compare K r7 r8 l3 l5 F9 B9) (fun r12 F12 B12 => if r32 r12 then (if 0 < r12 then if r32 l2 then (if l2 = 0 then f_M_choose_93 rec8 (f_M_choose_18 rec8 K n) K r8 r7 l8 l7 l1 l2 F12 B12 else zbind (f_M_stands K l1 r7 r8 F12 B12) (fun r17 F17 B17 => if r32 r17 then (if r17 = 0 then f_M_choose_112 rec8 (f_M_choose_18 rec8 K n) K l8 l7 l5 l3 l1 l2 F17 B17 else f_M_choose_93 rec8 (f_M_choose_18 rec8 K n) K r8 r7 l8 l7 l1 l2 F17 B17) else none)) else none else f_M_choose_112 rec8 (f_M_choose_18 rec8 K n) K l8 l7 l5 l3 l1 l2 F12 B12) else none)) else none)))) else none
set_option maxHeartbeats 4000000 in
set_option maxRecDepth 100000 in
theorem b_M_choose_18 {D : va_G} {ca : Nat → ClassId} {ad : Nat → Int → Nat → Nat} {L : List Nat} {aS vS : Nat → Nat} {A : Nat → Prop} {p : Program} {l : Launch} {e : Env} {s : State} {m : MethodId} {args : Array Value} {below : List Frame} {meth : Method} {c : Code} {K : Nat} {r : Int} {F9 : zF} {B9 : zB} (X : zX D ca L aS vS A p s m args meth c prog_15_method_84_code 13 (Option.some Jvm.ClassFile.FieldType.boolean) "StaveHouseModel") {rec8 : Int → Int → Int → Int → Int → zF → zB → zO} (hrec8 : ∀ {l7 : Int} {l5 : Int} {l3 : Int} {l1 : Int} {l2 : Int} {F : zF} {B : zB} {H : Heap} {locs : List Loc} {ls : Array Slot}, rec8 l7 l5 l3 l1 l2 F B = some (r, F9, B9) → zH D ca ad lnM nM L F B A H → va_S A s.heap H locs → lv_has ls 13 [(7, .int (iI l7)), (5, .long (lI l5)), (3, .long (lI l3)), (0, .ref (ad 14 0 0)), (1, .ref (ad 13 l1 0)), (2, .int (iI l2))] → W p l e ({ frames := 5, cells := 0, slots := 0, locals := 158 } : Room) s m args below meth c H locs 0 0 (MQ below (Q_M_choose D ca ad L r F9 B9 A) args s 0 0 A) (F0 m 8 ls [])) : ∀ {n : Nat} {l8 : Int} {l7 : Int} {l5 : Int} {l3 : Int} {l1 : Int} {l2 : Int} {F : zF} {B : zB} {H : Heap} {locs : List Loc} {ls : Array Slot}, f_M_choose_18 rec8 K n l8 l7 l5 l3 l1 l2 F B = some (r, F9, B9) → zH D ca ad lnM nM L F B A H → va_S A s.heap H locs → lv_has ls 13 [(8, .int (iI l8)), (7, .int (iI l7)), (5, .long (lI l5)), (3, .long (lI l3)), (0, .ref (ad 14 0 0)), (1, .ref (ad 13 l1 0)), (2, .int (iI l2))] → W p l e ({ frames := 5, cells := 0, slots := 0, locals := 158 } : Room) s m args below meth c H locs 0 0 (MQ below (Q_M_choose D ca ad L r F9 B9 A) args s 0 0 A) (F0 m 18 ls []) := by
  obtain ⟨hx, hb, hr, hml, hown, hts, hlk, hK, hA, hL, hX⟩ := id X
  intro n
  induction n with
  | zero =>
    intros
    rename_i hf _ _ _
    cases hf
  | succ n ih =>
    intro l8 l7 l5 l3 l1 l2 F B H locs ls hf hZ hS hl
    replace hf : (if r32 l8 then (if 3 ≤ l8 then rec8 (l7 + 1) l5 l3 l1 l2 F B else zbind (f_M_formUp K l8 F B) (fun r7 F7 B7 => zbind (f_M_formDown K l7 l8 F7 B7) (fun r8 F8 B8 => zbind (f_M_compare K r7 r8 (F8 14 0 52) (F8 14 0 53) F8 B8) (fun r9 F9 B9 => if r32 r9 then (if 0 < r9 then f_M_choose_112 rec8 (f_M_choose_18 rec8 K n) K l8 l7 l5 l3 l1 l2 F9 B9 else zbind (f_M_compare K r7 r8 l3 l5 F9 B9) (fun r12 F12 B12 => if r32 r12 then (if 0 < r12 then if r32 l2 then (if l2 = 0 then f_M_choose_93 rec8 (f_M_choose_18 rec8 K n) K r8 r7 l8 l7 l1 l2 F12 B12 else zbind (f_M_stands K l1 r7 r8 F12 B12) (fun r17 F17 B17 => if r32 r17 then (if r17 = 0 then f_M_choose_112 rec8 (f_M_choose_18 rec8 K n) K l8 l7 l5 l3 l1 l2 F17 B17 else f_M_choose_93 rec8 (f_M_choose_18 rec8 K n) K r8 r7 l8 l7 l1 l2 F17 B17) else none)) else none else f_M_choose_112 rec8 (f_M_choose_18 rec8 K n) K l8 l7 l5 l3 l1 l2 F12 B12) else none)) else none)))) else none) = some (r, F9, B9) := hf
    refine lv_iload hx hb d_15_84_18 (lv_at hl 0 rfl) ?_
    refine lv_iconst (v := iI 3) hx hb d_15_84_20 rfl ?_
    obtain ⟨g5, hf⟩ := gif hf
    refine zge (tgt := 118) hx hb g5 (by decide) d_15_84_21 (by decide) (fun h6 => ?_) (fun h6 => ?_)
    · replace hf := gpos hf h6
      refine lv_iinc (v := iI (l7 + 1)) (lv' := [(7, .int (iI (l7 + 1))), (8, .int (iI l8)), (5, .long (lI l5)), (3, .long (lI l3)), (0, .ref (ad 14 0 0)), (1, .ref (ad 13 l1 0)), (2, .int (iI l2))]) hx hb d_15_84_118 hl (k := 1) rfl (iI_add _ 1) (by decide) rfl (fun ls hl => ?_)
      refine lv_goto (tgt := 8) hx hb d_15_84_121 (by decide) ?_
      exact hrec8 hf hZ hS (lv_sub hl [0, 2, 3, 4, 5, 6] rfl)
    · replace hf := gneg hf h6
      refine lv_iload hx hb d_15_84_24 (lv_at hl 0 rfl) ?_
      obtain ⟨r7, F7, B7, hc7, hf⟩ := gbind hf
      refine va_calll (va_runS (As := [.int (iI l8)]) (rest := []) ⟨hx, hb, hml, hown, hts⟩ (c_M_formUp (l := l) hc7) (va_cwS 1 hts (gdS k_13_163 k_13_164 k_1_9 k_13_165) rfl rfl rfl (by decide +kernel) ⟨Nat.le_of_ble_eq_true rfl, Nat.le_of_ble_eq_true rfl⟩) (zPS X hZ hS [.int (iI l8)]) rfl rfl hl.1 rfl (lv_room (Nat.le_of_ble_eq_true rfl)) d_15_84_26 ⟨Nat.le_of_ble_eq_true rfl, Nat.le_of_ble_eq_true rfl⟩) hS (fun q _ h => zAin X hS q h) (zAin X hS) (fun p7 u7 t7 H7 locs7 ht7 hv7 hw7 hB7 hz7 hk7 hS7 => ?_)
      have hZ7 := zBack X ht7 hB7
      subst hw7
      refine lv_lstore (lv' := [(9, .long (lI r7)), (8, .int (iI l8)), (7, .int (iI l7)), (5, .long (lI l5)), (3, .long (lI l3)), (0, .ref (ad 14 0 0)), (1, .ref (ad 13 l1 0)), (2, .int (iI l2))]) hx hb d_15_84_29 hl (by decide) rfl (fun ls hl => ?_)
      refine lv_iload hx hb d_15_84_31 (lv_at hl 2 rfl) ?_
      refine lv_iload hx hb d_15_84_33 (lv_at hl 1 rfl) ?_
      obtain ⟨r8, F8, B8, hc8, hf⟩ := gbind hf
      refine va_calll (va_runS (As := [.int (iI l7), .int (iI l8)]) (rest := []) ⟨hx, hb, hml, hown, hts⟩ (c_M_formDown (l := l) hc8) (va_cwS 2 hts (gdS k_13_168 k_13_169 k_1_9 k_13_170) rfl rfl rfl (by decide +kernel) ⟨Nat.le_of_ble_eq_true rfl, Nat.le_of_ble_eq_true rfl⟩) (zPS X hZ7 hS7 [.int (iI l7), .int (iI l8)]) rfl rfl hl.1 rfl (lv_room (Nat.le_of_ble_eq_true rfl)) d_15_84_35 ⟨Nat.le_of_ble_eq_true rfl, Nat.le_of_ble_eq_true rfl⟩) hS7 (fun q _ h => zAin X hS7 q h) (zAin X hS7) (fun p8 u8 t8 H8 locs8 ht8 hv8 hw8 hB8 hz8 hk8 hS8 => ?_)
      have hZ8 := zBack X ht8 hB8
      subst hw8
      refine lv_lstore (lv' := [(11, .long (lI r8)), (9, .long (lI r7)), (8, .int (iI l8)), (7, .int (iI l7)), (5, .long (lI l5)), (3, .long (lI l3)), (0, .ref (ad 14 0 0)), (1, .ref (ad 13 l1 0)), (2, .int (iI l2))]) hx hb d_15_84_38 hl (by decide) rfl (fun ls hl => ?_)
      refine lv_lload hx hb d_15_84_40 (lv_at hl 1 rfl) ?_
      refine lv_lload hx hb d_15_84_42 (lv_at hl 0 rfl) ?_
      refine lv_aload_n hx hb d_15_84_44 rfl (lv_at hl 6 rfl) ?_
      refine zget (ci := 14) (C := RX14) (T := TX14) (v := .long (lI (F8 14 0 52))) (k := 52) hx hb hts inW_14 hown hK hZ8 (by decide) (by decide) rfl (by decide) k_11_50 rfl d_15_84_45 ?_
      refine lv_aload_n hx hb d_15_84_48 rfl (lv_at hl 6 rfl) ?_
      refine zget (ci := 14) (C := RX14) (T := TX14) (v := .long (lI (F8 14 0 53))) (k := 53) hx hb hts inW_14 hown hK hZ8 (by decide) (by decide) rfl (by decide) k_11_51 rfl d_15_84_49 ?_
      obtain ⟨r9, F9, B9, hc9, hf⟩ := gbind hf
      refine va_calli (va_runS (As := [.long (lI r7), .long (lI r8), .long (lI (F8 14 0 52)), .long (lI (F8 14 0 53))]) (rest := []) ⟨hx, hb, hml, hown, hts⟩ (c_M_compare (l := l) hc9) (va_cwS 4 hts (gdS k_13_104 k_13_105 k_1_9 k_13_106) rfl rfl rfl (by decide +kernel) ⟨Nat.le_of_ble_eq_true rfl, Nat.le_of_ble_eq_true rfl⟩) (zPS X hZ8 hS8 [.long (lI r7), .long (lI r8), .long (lI (F8 14 0 52)), .long (lI (F8 14 0 53))]) rfl rfl hl.1 rfl (lv_room (Nat.le_of_ble_eq_true rfl)) d_15_84_52 ⟨Nat.le_of_ble_eq_true rfl, Nat.le_of_ble_eq_true rfl⟩) hS8 (fun q _ h => zAin X hS8 q h) (zAin X hS8) (fun p9 u9 t9 H9 locs9 ht9 hv9 hw9 hB9 hz9 hk9 hS9 => ?_)
      have hZ9 := zBack X ht9 hB9
      subst hw9
      obtain ⟨g10, hf⟩ := gif hf
      refine z0gt (tgt := 112) hx hb g10 d_15_84_55 (by decide) (fun h11 => ?_) (fun h11 => ?_)
      · replace hf := gpos hf h11
        exact b_M_choose_112 X hrec8 ih hf hZ9 hS9 (lv_sub hl [2, 3, 4, 5, 6, 7, 8] rfl)
      · replace hf := gneg hf h11
        refine lv_lload hx hb d_15_84_58 (lv_at hl 1 rfl) ?_
        refine lv_lload hx hb d_15_84_60 (lv_at hl 0 rfl) ?_
        refine lv_lload_n hx hb d_15_84_62 rfl (lv_at hl 5 rfl) ?_
        refine lv_lload hx hb d_15_84_63 (lv_at hl 4 rfl) ?_
        obtain ⟨r12, F12, B12, hc12, hf⟩ := gbind hf
        refine va_calli (va_runS (As := [.long (lI r7), .long (lI r8), .long (lI l3), .long (lI l5)]) (rest := []) ⟨hx, hb, hml, hown, hts⟩ (c_M_compare (l := l) hc12) (va_cwS 4 hts (gdS k_13_104 k_13_105 k_1_9 k_13_106) rfl rfl rfl (by decide +kernel) ⟨Nat.le_of_ble_eq_true rfl, Nat.le_of_ble_eq_true rfl⟩) (zPS X hZ9 hS9 [.long (lI r7), .long (lI r8), .long (lI l3), .long (lI l5)]) rfl rfl hl.1 rfl (lv_room (Nat.le_of_ble_eq_true rfl)) d_15_84_65 ⟨Nat.le_of_ble_eq_true rfl, Nat.le_of_ble_eq_true rfl⟩) hS9 (fun q _ h => zAin X hS9 q h) (zAin X hS9) (fun p12 u12 t12 H12 locs12 ht12 hv12 hw12 hB12 hz12 hk12 hS12 => ?_)
        have hZ12 := zBack X ht12 hB12
        subst hw12
        obtain ⟨g13, hf⟩ := gif hf
        refine z0gt (tgt := 74) hx hb g13 d_15_84_68 (by decide) (fun h14 => ?_) (fun h14 => ?_)
        · replace hf := gpos hf h14
          refine lv_iload_n hx hb d_15_84_74 rfl (lv_at hl 8 rfl) ?_
          obtain ⟨g15, hf⟩ := gif hf
          refine z0eq (tgt := 93) hx hb g15 d_15_84_75 (by decide) (fun h16 => ?_) (fun h16 => ?_)
          · replace hf := gpos hf h16
            exact b_M_choose_93 X hrec8 ih hf hZ12 hS12 (lv_sub hl [0, 1, 2, 3, 6, 7, 8] rfl)
          · replace hf := gneg hf h16
            refine lv_aload_n hx hb d_15_84_78 rfl (lv_at hl 6 rfl) ?_
            refine lv_aload_n hx hb d_15_84_79 rfl (lv_at hl 7 rfl) ?_
            refine lv_lload hx hb d_15_84_80 (lv_at hl 1 rfl) ?_
            refine lv_lload hx hb d_15_84_82 (lv_at hl 0 rfl) ?_
            obtain ⟨r17, F17, B17, hc17, hf⟩ := gbind hf
            refine va_calli (va_runV (As := [.ref (ad 13 l1 0), .long (lI r7), .long (lI r8)]) (rest := []) ⟨hx, hb, hml, hown, hts⟩ (c_M_stands (l := l) hc17) (cwV 3 hts (gdV k_13_171 k_13_173 ks_181 k_1_9 k_13_174) rfl rfl rfl (by decide +kernel) ⟨Nat.le_of_ble_eq_true rfl, Nat.le_of_ble_eq_true rfl⟩) (zPV X hZ12 hS12 (ci := 14) (by decide) (by decide) (r := (RX14, TX14, 107)) rfl [.ref (ad 13 l1 0), .long (lI r7), .long (lI r8)]) rfl rfl hl.1 rfl (lv_room (Nat.le_of_ble_eq_true rfl)) d_15_84_84 ⟨Nat.le_of_ble_eq_true rfl, Nat.le_of_ble_eq_true rfl⟩) hS12 (fun q _ h => zAin X hS12 q h) (zAin X hS12) (fun p17 u17 t17 H17 locs17 ht17 hv17 hw17 hB17 hz17 hk17 hS17 => ?_)
            have hZ17 := zBack X ht17 hB17
            subst hw17
            obtain ⟨g18, hf⟩ := gif hf
            refine z0ne (tgt := 93) hx hb g18 d_15_84_87 (by decide) (fun h19 => ?_) (fun h19 => ?_)
            · replace hf := gneg hf h19
              exact b_M_choose_93 X hrec8 ih hf hZ17 hS17 (lv_sub hl [0, 1, 2, 3, 6, 7, 8] rfl)
            · replace hf := gpos hf h19
              refine lv_goto (tgt := 112) hx hb d_15_84_90 (by decide) ?_
              exact b_M_choose_112 X hrec8 ih hf hZ17 hS17 (lv_sub hl [2, 3, 4, 5, 6, 7, 8] rfl)
        · replace hf := gneg hf h14
          refine lv_goto (tgt := 112) hx hb d_15_84_71 (by decide) ?_
          exact b_M_choose_112 X hrec8 ih hf hZ12 hS12 (lv_sub hl [2, 3, 4, 5, 6, 7, 8] rfl)

def f_M_choose_8 (K : Nat) : Nat → Int → Int → Int → Int → Int → zF → zB → zO
  | 0, _, _, _, _, _, _, _ => none
  | n + 1, l7, l5, l3, l1, l2, F, B => if r32 l7 then (if 8 ≤ l7 then if r64 l3 then (if (zcmp l3 0) ≤ 0 then f_M_choose_135 K 0 F B else f_M_choose_135 K 1 F B) else none else f_M_choose_18 (f_M_choose_8 K n) K K 0 l7 l5 l3 l1 l2 F B) else none
set_option maxHeartbeats 4000000 in
set_option maxRecDepth 100000 in
theorem b_M_choose_8 {D : va_G} {ca : Nat → ClassId} {ad : Nat → Int → Nat → Nat} {L : List Nat} {aS vS : Nat → Nat} {A : Nat → Prop} {p : Program} {l : Launch} {e : Env} {s : State} {m : MethodId} {args : Array Value} {below : List Frame} {meth : Method} {c : Code} {K : Nat} {r : Int} {F9 : zF} {B9 : zB} (X : zX D ca L aS vS A p s m args meth c prog_15_method_84_code 13 (Option.some Jvm.ClassFile.FieldType.boolean) "StaveHouseModel") : ∀ {n : Nat} {l7 : Int} {l5 : Int} {l3 : Int} {l1 : Int} {l2 : Int} {F : zF} {B : zB} {H : Heap} {locs : List Loc} {ls : Array Slot}, f_M_choose_8 K n l7 l5 l3 l1 l2 F B = some (r, F9, B9) → zH D ca ad lnM nM L F B A H → va_S A s.heap H locs → lv_has ls 13 [(7, .int (iI l7)), (5, .long (lI l5)), (3, .long (lI l3)), (0, .ref (ad 14 0 0)), (1, .ref (ad 13 l1 0)), (2, .int (iI l2))] → W p l e ({ frames := 5, cells := 0, slots := 0, locals := 158 } : Room) s m args below meth c H locs 0 0 (MQ below (Q_M_choose D ca ad L r F9 B9 A) args s 0 0 A) (F0 m 8 ls []) := by
  obtain ⟨hx, hb, hr, hml, hown, hts, hlk, hK, hA, hL, hX⟩ := id X
  intro n
  induction n with
  | zero =>
    intros
    rename_i hf _ _ _
    cases hf
  | succ n ih =>
    intro l7 l5 l3 l1 l2 F B H locs ls hf hZ hS hl
    replace hf : (if r32 l7 then (if 8 ≤ l7 then if r64 l3 then (if (zcmp l3 0) ≤ 0 then f_M_choose_135 K 0 F B else f_M_choose_135 K 1 F B) else none else f_M_choose_18 (f_M_choose_8 K n) K K 0 l7 l5 l3 l1 l2 F B) else none) = some (r, F9, B9) := hf
    refine lv_iload hx hb d_15_84_8 (lv_at hl 0 rfl) ?_
    refine lv_bipush (v := iI 8) hx hb d_15_84_10 (by decide) ?_
    obtain ⟨g1, hf⟩ := gif hf
    refine zge (tgt := 124) hx hb g1 (by decide) d_15_84_12 (by decide) (fun h2 => ?_) (fun h2 => ?_)
    · replace hf := gpos hf h2
      refine lv_lload_n hx hb d_15_84_124 rfl (lv_at hl 2 rfl) ?_
      refine lv_lconst (v := lI 0) hx hb d_15_84_125 (by decide) ?_
      obtain ⟨g3, hf⟩ := gif hf
      refine zcmp_r hx hb g3 (by decide) d_15_84_126 ?_
      refine z0le (tgt := 134) hx hb zcmp_32 d_15_84_127 (by decide) (fun h4 => ?_) (fun h4 => ?_)
      · replace hf := gpos hf h4
        refine lv_iconst (v := iI 0) hx hb d_15_84_134 rfl ?_
        exact b_M_choose_135 X hf hZ hS (lv_sub hl [] rfl)
      · replace hf := gneg hf h4
        refine lv_iconst (v := iI 1) hx hb d_15_84_130 rfl ?_
        refine lv_goto (tgt := 135) hx hb d_15_84_131 (by decide) ?_
        exact b_M_choose_135 X hf hZ hS (lv_sub hl [] rfl)
    · replace hf := gneg hf h2
      refine lv_iconst (v := iI 0) hx hb d_15_84_15 rfl ?_
      refine lv_istore (lv' := [(8, .int (iI 0)), (7, .int (iI l7)), (5, .long (lI l5)), (3, .long (lI l3)), (0, .ref (ad 14 0 0)), (1, .ref (ad 13 l1 0)), (2, .int (iI l2))]) hx hb d_15_84_16 hl (by decide) rfl (fun ls hl => ?_)
      exact b_M_choose_18 X ih hf hZ hS (lv_sub hl [0, 1, 2, 3, 4, 5, 6] rfl)

def f_M_choose (K : Nat) (l1 : Int) (l2 : Int) (F : zF) (B : zB) : zO := f_M_choose_8 K K 0 1 0 l1 l2 F B
set_option maxHeartbeats 4000000 in
set_option maxRecDepth 100000 in
theorem c_M_choose {l : Launch} {D : va_G} {ca : Nat → ClassId} {ad : Nat → Int → Nat → Nat} {L : List Nat} {aS vS : Nat → Nat} {sz K : Nat} {l1 : Int} {l2 : Int} {F F9 : zF} {B B9 : zB} {r : Int} (hf : f_M_choose K l1 l2 F B = some (r, F9, B9)) : Met l ({ cls := "StaveHouseModel", name := "choose", desc := "(LStaveHouseModel$Piece;Z)Z" } : Jvm.MethodName) (Cond.code ({ cls := "StaveHouseModel", name := "choose", desc := "(LStaveHouseModel$Piece;Z)Z" } : Jvm.MethodName) prog_15_method_84_code 13 (Option.some Jvm.ClassFile.FieldType.boolean) :: wAll) ({ frames := 5, cells := 0, slots := 0, locals := 158 } : Room) (va_Pc [.ref (ad 14 0 0), .ref (ad 13 l1 0), .int (iI l2)] (zPre D ca ad lnM nM L aS vS F B sz)) (Q_M_choose D ca ad L r F9 B9 (zA L sz)) 0 0 (zA L sz) := by
  refine zMet (Qc := Q_M_choose D ca ad L r F9 B9) (lv := [(0, .ref (ad 14 0 0)), (1, .ref (ad 13 l1 0)), (2, .int (iI l2))]) (by decide) (Nat.le_of_ble_eq_true rfl) rfl (fun A p e s m below meth c ls X hZ hS hl => ?_)
  obtain ⟨hx, hb, hr, hml, hown, hts, hlk, hK, hA, hL, hX⟩ := id X
  replace hf : (f_M_choose_8 K K 0 1 0 l1 l2 F B) = some (r, F9, B9) := hf
  refine lv_lconst (v := lI 0) hx hb d_15_84_0 (by decide) ?_
  refine lv_lstore_n (lv' := [(3, .long (lI 0)), (0, .ref (ad 14 0 0)), (1, .ref (ad 13 l1 0)), (2, .int (iI l2))]) hx hb d_15_84_1 rfl hl (by decide) rfl (fun ls hl => ?_)
  refine lv_lconst (v := lI 1) hx hb d_15_84_2 (by decide) ?_
  refine lv_lstore (lv' := [(5, .long (lI 1)), (3, .long (lI 0)), (0, .ref (ad 14 0 0)), (1, .ref (ad 13 l1 0)), (2, .int (iI l2))]) hx hb d_15_84_3 hl (by decide) rfl (fun ls hl => ?_)
  refine lv_iconst (v := iI 0) hx hb d_15_84_5 rfl ?_
  refine lv_istore (lv' := [(7, .int (iI 0)), (5, .long (lI 1)), (3, .long (lI 0)), (0, .ref (ad 14 0 0)), (1, .ref (ad 13 l1 0)), (2, .int (iI l2))]) hx hb d_15_84_6 hl (by decide) rfl (fun ls hl => ?_)
  exact b_M_choose_8 X hf hZ hS (lv_sub hl [0, 1, 2, 3, 4, 5] rfl)

abbrev Q_M_keyHeard (D : va_G) (ca : Nat → ClassId) (ad : Nat → Int → Nat → Nat) (L : List Nat) (r : Int) (F : zF) (B : zB) (A : Nat → Prop) : Array Value → State → Outcome → State → Prop := va_Qi (S := Unit) (fun p _ => p = iI r) (fun _ => zPo D ca ad lnM nM L F B A) A
def f_M_keyHeard_126 (rec29 : Int → Int → Int → Int → zF → zB → zO) (K : Nat) (l5 : Int) (l3 : Int) (l6 : Int) (l2 : Int) (F : zF) (B : zB) : zO := rec29 (l6 + 1) l5 l3 l2 F B
set_option maxHeartbeats 4000000 in
set_option maxRecDepth 100000 in
theorem b_M_keyHeard_126 {D : va_G} {ca : Nat → ClassId} {ad : Nat → Int → Nat → Nat} {L : List Nat} {aS vS : Nat → Nat} {A : Nat → Prop} {p : Program} {l : Launch} {e : Env} {s : State} {m : MethodId} {args : Array Value} {below : List Frame} {meth : Method} {c : Code} {K : Nat} {r : Int} {F9 : zF} {B9 : zB} (X : zX D ca L aS vS A p s m args meth c prog_15_method_195_code 10 (Option.some Jvm.ClassFile.FieldType.int) "StaveHouseModel") {rec29 : Int → Int → Int → Int → zF → zB → zO} (hrec29 : ∀ {l6 : Int} {l5 : Int} {l3 : Int} {l2 : Int} {F : zF} {B : zB} {H : Heap} {locs : List Loc} {ls : Array Slot}, rec29 l6 l5 l3 l2 F B = some (r, F9, B9) → zH D ca ad lnM nM L F B A H → va_S A s.heap H locs → lv_has ls 10 [(6, .int (iI l6)), (5, .int (iI l5)), (3, .long (lI l3)), (2, .int (iI l2)), (0, .ref (ad 14 0 0))] → W p l e ({ frames := 6, cells := 0, slots := 0, locals := 168 } : Room) s m args below meth c H locs 0 0 (MQ below (Q_M_keyHeard D ca ad L r F9 B9 A) args s 0 0 A) (F0 m 29 ls [])) {l5 : Int} {l3 : Int} {l6 : Int} {l2 : Int} {F : zF} {B : zB} {H : Heap} {locs : List Loc} {ls : Array Slot} (hf : f_M_keyHeard_126 rec29 K l5 l3 l6 l2 F B = some (r, F9, B9)) (hZ : zH D ca ad lnM nM L F B A H) (hS : va_S A s.heap H locs) (hl : lv_has ls 10 [(5, .int (iI l5)), (3, .long (lI l3)), (6, .int (iI l6)), (2, .int (iI l2)), (0, .ref (ad 14 0 0))]) : W p l e ({ frames := 6, cells := 0, slots := 0, locals := 168 } : Room) s m args below meth c H locs 0 0 (MQ below (Q_M_keyHeard D ca ad L r F9 B9 A) args s 0 0 A) (F0 m 126 ls []) := by
  obtain ⟨hx, hb, hr, hml, hown, hts, hlk, hK, hA, hL, hX⟩ := id X
  replace hf : (rec29 (l6 + 1) l5 l3 l2 F B) = some (r, F9, B9) := hf
  refine lv_iinc (v := iI (l6 + 1)) (lv' := [(6, .int (iI (l6 + 1))), (5, .int (iI l5)), (3, .long (lI l3)), (2, .int (iI l2)), (0, .ref (ad 14 0 0))]) hx hb d_15_195_126 hl (k := 2) rfl (iI_add _ 1) (by decide) rfl (fun ls hl => ?_)
  refine lv_goto (tgt := 29) hx hb d_15_195_129 (by decide) ?_
  exact hrec29 hf hZ hS (lv_sub hl [0, 1, 2, 3, 4] rfl)

def f_M_keyHeard_42 (rec29 : Int → Int → Int → Int → zF → zB → zO) (K : Nat) : Nat → Int → Int → Int → Int → Int → Int → zF → zB → zO
  | 0, _, _, _, _, _, _, _, _ => none
  | n + 1, l9, l7, l6, l5, l3, l2, F, B => if r32 l9 then if r32 l2 then (if l2 ≤ l9 then if r64 l7 then if r64 l3 then (if 0 < (zcmp l7 l3) then f_M_keyHeard_126 rec29 K l6 l7 l6 l2 F B else f_M_keyHeard_126 rec29 K l5 l3 l6 l2 F B) else none else none else if 0 ≤ l9 ∧ l9 < 2000 then if r32 ((B 14 0 64 l9) - (B 14 0 63 l9)) then zbind (f_M_mod K ((B 14 0 65 l9) - (zrm l6 12)) 12 F B) (fun r15 F15 B15 => if 0 ≤ (((zdv l6 12) * 12) + r15) ∧ (((zdv l6 12) * 12) + r15) < 24 then if r32 (B15 14 0 106 (((zdv l6 12) * 12) + r15)) then f_M_keyHeard_42 rec29 K n (l9 + 1) (l7 + (((B 14 0 64 l9) - (B 14 0 63 l9)) * (B15 14 0 106 (((zdv l6 12) * 12) + r15)))) l6 l5 l3 l2 F15 B15 else none else none) else none else none) else none else none
set_option maxHeartbeats 4000000 in
set_option maxRecDepth 100000 in
theorem b_M_keyHeard_42 {D : va_G} {ca : Nat → ClassId} {ad : Nat → Int → Nat → Nat} {L : List Nat} {aS vS : Nat → Nat} {A : Nat → Prop} {p : Program} {l : Launch} {e : Env} {s : State} {m : MethodId} {args : Array Value} {below : List Frame} {meth : Method} {c : Code} {K : Nat} {r : Int} {F9 : zF} {B9 : zB} (X : zX D ca L aS vS A p s m args meth c prog_15_method_195_code 10 (Option.some Jvm.ClassFile.FieldType.int) "StaveHouseModel") {rec29 : Int → Int → Int → Int → zF → zB → zO} (hrec29 : ∀ {l6 : Int} {l5 : Int} {l3 : Int} {l2 : Int} {F : zF} {B : zB} {H : Heap} {locs : List Loc} {ls : Array Slot}, rec29 l6 l5 l3 l2 F B = some (r, F9, B9) → zH D ca ad lnM nM L F B A H → va_S A s.heap H locs → lv_has ls 10 [(6, .int (iI l6)), (5, .int (iI l5)), (3, .long (lI l3)), (2, .int (iI l2)), (0, .ref (ad 14 0 0))] → W p l e ({ frames := 6, cells := 0, slots := 0, locals := 168 } : Room) s m args below meth c H locs 0 0 (MQ below (Q_M_keyHeard D ca ad L r F9 B9 A) args s 0 0 A) (F0 m 29 ls [])) : ∀ {n : Nat} {l9 : Int} {l7 : Int} {l6 : Int} {l5 : Int} {l3 : Int} {l2 : Int} {F : zF} {B : zB} {H : Heap} {locs : List Loc} {ls : Array Slot}, f_M_keyHeard_42 rec29 K n l9 l7 l6 l5 l3 l2 F B = some (r, F9, B9) → zH D ca ad lnM nM L F B A H → va_S A s.heap H locs → lv_has ls 10 [(9, .int (iI l9)), (7, .long (lI l7)), (6, .int (iI l6)), (5, .int (iI l5)), (3, .long (lI l3)), (2, .int (iI l2)), (0, .ref (ad 14 0 0))] → W p l e ({ frames := 6, cells := 0, slots := 0, locals := 168 } : Room) s m args below meth c H locs 0 0 (MQ below (Q_M_keyHeard D ca ad L r F9 B9 A) args s 0 0 A) (F0 m 42 ls []) := by
  obtain ⟨hx, hb, hr, hml, hown, hts, hlk, hK, hA, hL, hX⟩ := id X
  intro n
  induction n with
  | zero =>
    intros
    rename_i hf _ _ _
    cases hf
  | succ n ih =>
    intro l9 l7 l6 l5 l3 l2 F B H locs ls hf hZ hS hl
    replace hf : (if r32 l9 then if r32 l2 then (if l2 ≤ l9 then if r64 l7 then if r64 l3 then (if 0 < (zcmp l7 l3) then f_M_keyHeard_126 rec29 K l6 l7 l6 l2 F B else f_M_keyHeard_126 rec29 K l5 l3 l6 l2 F B) else none else none else if 0 ≤ l9 ∧ l9 < 2000 then if r32 ((B 14 0 64 l9) - (B 14 0 63 l9)) then zbind (f_M_mod K ((B 14 0 65 l9) - (zrm l6 12)) 12 F B) (fun r15 F15 B15 => if 0 ≤ (((zdv l6 12) * 12) + r15) ∧ (((zdv l6 12) * 12) + r15) < 24 then if r32 (B15 14 0 106 (((zdv l6 12) * 12) + r15)) then f_M_keyHeard_42 rec29 K n (l9 + 1) (l7 + (((B 14 0 64 l9) - (B 14 0 63 l9)) * (B15 14 0 106 (((zdv l6 12) * 12) + r15)))) l6 l5 l3 l2 F15 B15 else none else none) else none else none) else none else none) = some (r, F9, B9) := hf
    refine lv_iload hx hb d_15_195_42 (lv_at hl 0 rfl) ?_
    refine lv_iload_n hx hb d_15_195_44 rfl (lv_at hl 5 rfl) ?_
    obtain ⟨g7, hf⟩ := gif hf
    obtain ⟨g8, hf⟩ := gif hf
    refine zge (tgt := 109) hx hb g7 g8 d_15_195_45 (by decide) (fun h9 => ?_) (fun h9 => ?_)
    · replace hf := gpos hf h9
      refine lv_lload hx hb d_15_195_109 (lv_at hl 1 rfl) ?_
      refine lv_lload_n hx hb d_15_195_111 rfl (lv_at hl 4 rfl) ?_
      obtain ⟨g10, hf⟩ := gif hf
      obtain ⟨g11, hf⟩ := gif hf
      refine zcmp_r hx hb g10 g11 d_15_195_112 ?_
      refine z0gt (tgt := 119) hx hb zcmp_32 d_15_195_113 (by decide) (fun h12 => ?_) (fun h12 => ?_)
      · replace hf := gpos hf h12
        refine lv_lload hx hb d_15_195_119 (lv_at hl 1 rfl) ?_
        refine lv_lstore_n (lv' := [(3, .long (lI l7)), (9, .int (iI l9)), (7, .long (lI l7)), (6, .int (iI l6)), (5, .int (iI l5)), (2, .int (iI l2)), (0, .ref (ad 14 0 0))]) hx hb d_15_195_121 rfl hl (by decide) rfl (fun ls hl => ?_)
        refine lv_iload hx hb d_15_195_122 (lv_at hl 3 rfl) ?_
        refine lv_istore (lv' := [(5, .int (iI l6)), (3, .long (lI l7)), (9, .int (iI l9)), (7, .long (lI l7)), (6, .int (iI l6)), (2, .int (iI l2)), (0, .ref (ad 14 0 0))]) hx hb d_15_195_124 hl (by decide) rfl (fun ls hl => ?_)
        exact b_M_keyHeard_126 X hrec29 hf hZ hS (lv_sub hl [0, 1, 4, 5, 6] rfl)
      · replace hf := gneg hf h12
        refine lv_goto (tgt := 126) hx hb d_15_195_116 (by decide) ?_
        exact b_M_keyHeard_126 X hrec29 hf hZ hS (lv_sub hl [3, 4, 2, 5, 6] rfl)
    · replace hf := gneg hf h9
      refine lv_lload hx hb d_15_195_48 (lv_at hl 1 rfl) ?_
      refine lv_aload_n hx hb d_15_195_50 rfl (lv_at hl 6 rfl) ?_
      refine zget (ci := 14) (C := RX14) (T := TX14) (v := .ref (ad 14 0 (64 + 1))) (k := 64) hx hb hts inW_14 hown hK hZ (by decide) (by decide) rfl (by decide) k_11_62 rfl d_15_195_51 ?_
      refine lv_iload hx hb d_15_195_54 (lv_at hl 0 rfl) ?_
      obtain ⟨g13, hf⟩ := gif hf
      refine zald (ci := 14) (k := 64) hx hb hK rfl hZ (by decide) (by decide) rfl (Nat.le_of_ble_eq_true rfl) g13.1 g13.2 d_15_195_56 ?_
      refine lv_aload_n hx hb d_15_195_57 rfl (lv_at hl 6 rfl) ?_
      refine zget (ci := 14) (C := RX14) (T := TX14) (v := .ref (ad 14 0 (63 + 1))) (k := 63) hx hb hts inW_14 hown hK hZ (by decide) (by decide) rfl (by decide) k_11_61 rfl d_15_195_58 ?_
      refine lv_iload hx hb d_15_195_61 (lv_at hl 0 rfl) ?_
      refine zald (ci := 14) (k := 63) hx hb hK rfl hZ (by decide) (by decide) rfl (Nat.le_of_ble_eq_true rfl) g13.1 g13.2 d_15_195_63 ?_
      refine zsub hx hb d_15_195_64 ?_
      obtain ⟨g14, hf⟩ := gif hf
      refine zi2l hx hb g14 d_15_195_65 ?_
      refine lv_aload_n hx hb d_15_195_66 rfl (lv_at hl 6 rfl) ?_
      refine zget (ci := 14) (C := RX14) (T := TX14) (v := .ref (ad 14 0 (106 + 1))) (k := 106) hx hb hts inW_14 hown hK hZ (by decide) (by decide) rfl (by decide) k_11_104 rfl d_15_195_67 ?_
      refine lv_iload hx hb d_15_195_70 (lv_at hl 2 rfl) ?_
      refine lv_bipush (v := iI 12) hx hb d_15_195_72 (by decide) ?_
      refine zdv_r hx hb (by decide) d_15_195_74 ?_
      refine lv_bipush (v := iI 12) hx hb d_15_195_75 (by decide) ?_
      refine zmul hx hb d_15_195_77 ?_
      refine lv_aload_n hx hb d_15_195_78 rfl (lv_at hl 6 rfl) ?_
      refine zget (ci := 14) (C := RX14) (T := TX14) (v := .ref (ad 14 0 (65 + 1))) (k := 65) hx hb hts inW_14 hown hK hZ (by decide) (by decide) rfl (by decide) k_11_63 rfl d_15_195_79 ?_
      refine lv_iload hx hb d_15_195_82 (lv_at hl 0 rfl) ?_
      refine zald (ci := 14) (k := 65) hx hb hK rfl hZ (by decide) (by decide) rfl (Nat.le_of_ble_eq_true rfl) g13.1 g13.2 d_15_195_84 ?_
      refine lv_iload hx hb d_15_195_85 (lv_at hl 2 rfl) ?_
      refine lv_bipush (v := iI 12) hx hb d_15_195_87 (by decide) ?_
      refine zrm_r hx hb (by decide) d_15_195_89 ?_
      refine zsub hx hb d_15_195_90 ?_
      refine lv_bipush (v := iI 12) hx hb d_15_195_91 (by decide) ?_
      obtain ⟨r15, F15, B15, hc15, hf⟩ := gbind hf
      refine va_calli (va_runS (As := [.int (iI ((B 14 0 65 l9) - (zrm l6 12))), .int (iI 12)]) (rest := [.int (iI ((zdv l6 12) * 12)), .ref (ad 14 0 (106 + 1)), .long (lI ((B 14 0 64 l9) - (B 14 0 63 l9))), .long (lI l7)]) ⟨hx, hb, hml, hown, hts⟩ (c_M_mod (l := l) hc15) (va_cwS 2 hts (gdS k_12_164 k_12_165 k_1_9 k_12_166) rfl rfl rfl (by decide +kernel) ⟨Nat.le_of_ble_eq_true rfl, Nat.le_of_ble_eq_true rfl⟩) (zPS X hZ hS [.int (iI ((B 14 0 65 l9) - (zrm l6 12))), .int (iI 12)]) rfl rfl hl.1 rfl (lv_room (Nat.le_of_ble_eq_true rfl)) d_15_195_93 ⟨Nat.le_of_ble_eq_true rfl, Nat.le_of_ble_eq_true rfl⟩) hS (fun q _ h => zAin X hS q h) (zAin X hS) (fun p15 u15 t15 H15 locs15 ht15 hv15 hw15 hB15 hz15 hk15 hS15 => ?_)
      have hZ15 := zBack X ht15 hB15
      subst hw15
      refine zadd hx hb d_15_195_96 ?_
      obtain ⟨g16, hf⟩ := gif hf
      refine zald (ci := 14) (k := 106) hx hb hK rfl hZ15 (by decide) (by decide) rfl (Nat.le_of_ble_eq_true rfl) g16.1 g16.2 d_15_195_97 ?_
      obtain ⟨g17, hf⟩ := gif hf
      refine zi2l hx hb g17 d_15_195_98 ?_
      refine zlmul hx hb d_15_195_99 ?_
      refine zladd hx hb d_15_195_100 ?_
      refine lv_lstore (lv' := [(7, .long (lI (l7 + (((B 14 0 64 l9) - (B 14 0 63 l9)) * (B15 14 0 106 (((zdv l6 12) * 12) + r15)))))), (9, .int (iI l9)), (6, .int (iI l6)), (5, .int (iI l5)), (3, .long (lI l3)), (2, .int (iI l2)), (0, .ref (ad 14 0 0))]) hx hb d_15_195_101 hl (by decide) rfl (fun ls hl => ?_)
      refine lv_iinc (v := iI (l9 + 1)) (lv' := [(9, .int (iI (l9 + 1))), (7, .long (lI (l7 + (((B 14 0 64 l9) - (B 14 0 63 l9)) * (B15 14 0 106 (((zdv l6 12) * 12) + r15)))))), (6, .int (iI l6)), (5, .int (iI l5)), (3, .long (lI l3)), (2, .int (iI l2)), (0, .ref (ad 14 0 0))]) hx hb d_15_195_103 hl (k := 1) rfl (iI_add _ 1) (by decide) rfl (fun ls hl => ?_)
      refine lv_goto (tgt := 42) hx hb d_15_195_106 (by decide) ?_
      exact ih hf hZ15 hS15 (lv_sub hl [0, 1, 2, 3, 4, 5, 6] rfl)

def f_M_keyHeard_29 (K : Nat) : Nat → Int → Int → Int → Int → zF → zB → zO
  | 0, _, _, _, _, _, _ => none
  | n + 1, l6, l5, l3, l2, F, B => if r32 l6 then (if 24 ≤ l6 then some (l5, F, B) else f_M_keyHeard_42 (f_M_keyHeard_29 K n) K K 0 0 l6 l5 l3 l2 F B) else none
set_option maxHeartbeats 4000000 in
set_option maxRecDepth 100000 in
theorem b_M_keyHeard_29 {D : va_G} {ca : Nat → ClassId} {ad : Nat → Int → Nat → Nat} {L : List Nat} {aS vS : Nat → Nat} {A : Nat → Prop} {p : Program} {l : Launch} {e : Env} {s : State} {m : MethodId} {args : Array Value} {below : List Frame} {meth : Method} {c : Code} {K : Nat} {r : Int} {F9 : zF} {B9 : zB} (X : zX D ca L aS vS A p s m args meth c prog_15_method_195_code 10 (Option.some Jvm.ClassFile.FieldType.int) "StaveHouseModel") : ∀ {n : Nat} {l6 : Int} {l5 : Int} {l3 : Int} {l2 : Int} {F : zF} {B : zB} {H : Heap} {locs : List Loc} {ls : Array Slot}, f_M_keyHeard_29 K n l6 l5 l3 l2 F B = some (r, F9, B9) → zH D ca ad lnM nM L F B A H → va_S A s.heap H locs → lv_has ls 10 [(6, .int (iI l6)), (5, .int (iI l5)), (3, .long (lI l3)), (2, .int (iI l2)), (0, .ref (ad 14 0 0))] → W p l e ({ frames := 6, cells := 0, slots := 0, locals := 168 } : Room) s m args below meth c H locs 0 0 (MQ below (Q_M_keyHeard D ca ad L r F9 B9 A) args s 0 0 A) (F0 m 29 ls []) := by
  obtain ⟨hx, hb, hr, hml, hown, hts, hlk, hK, hA, hL, hX⟩ := id X
  intro n
  induction n with
  | zero =>
    intros
    rename_i hf _ _ _
    cases hf
  | succ n ih =>
    intro l6 l5 l3 l2 F B H locs ls hf hZ hS hl
    replace hf : (if r32 l6 then (if 24 ≤ l6 then some (l5, F, B) else f_M_keyHeard_42 (f_M_keyHeard_29 K n) K K 0 0 l6 l5 l3 l2 F B) else none) = some (r, F9, B9) := hf
    refine lv_iload hx hb d_15_195_29 (lv_at hl 0 rfl) ?_
    refine lv_bipush (v := iI 24) hx hb d_15_195_31 (by decide) ?_
    obtain ⟨g5, hf⟩ := gif hf
    refine zge (tgt := 132) hx hb g5 (by decide) d_15_195_33 (by decide) (fun h6 => ?_) (fun h6 => ?_)
    · replace hf := gpos hf h6
      refine lv_iload hx hb d_15_195_132 (lv_at hl 1 rfl) ?_
      cases hf
      exact W.iret hx hb hr (fun t ht hW => ⟨⟨_, (), rfl, rfl, by rw [ht]; exact hZ, va_K.moved hW.alike hK⟩, hS.F ht⟩) hS.2.2 d_15_195_134 hlk
    · replace hf := gneg hf h6
      refine lv_lconst (v := lI 0) hx hb d_15_195_36 (by decide) ?_
      refine lv_lstore (lv' := [(7, .long (lI 0)), (6, .int (iI l6)), (5, .int (iI l5)), (3, .long (lI l3)), (2, .int (iI l2)), (0, .ref (ad 14 0 0))]) hx hb d_15_195_37 hl (by decide) rfl (fun ls hl => ?_)
      refine lv_iconst (v := iI 0) hx hb d_15_195_39 rfl ?_
      refine lv_istore (lv' := [(9, .int (iI 0)), (7, .long (lI 0)), (6, .int (iI l6)), (5, .int (iI l5)), (3, .long (lI l3)), (2, .int (iI l2)), (0, .ref (ad 14 0 0))]) hx hb d_15_195_40 hl (by decide) rfl (fun ls hl => ?_)
      exact b_M_keyHeard_42 X ih hf hZ hS (lv_sub hl [0, 1, 2, 3, 4, 5, 6] rfl)

def f_M_keyHeard_17 (K : Nat)  (F : zF) (B : zB) : zO := some ((-1), F, B)
set_option maxHeartbeats 4000000 in
set_option maxRecDepth 100000 in
theorem b_M_keyHeard_17 {D : va_G} {ca : Nat → ClassId} {ad : Nat → Int → Nat → Nat} {L : List Nat} {aS vS : Nat → Nat} {A : Nat → Prop} {p : Program} {l : Launch} {e : Env} {s : State} {m : MethodId} {args : Array Value} {below : List Frame} {meth : Method} {c : Code} {K : Nat} {r : Int} {F9 : zF} {B9 : zB} (X : zX D ca L aS vS A p s m args meth c prog_15_method_195_code 10 (Option.some Jvm.ClassFile.FieldType.int) "StaveHouseModel")  {F : zF} {B : zB} {H : Heap} {locs : List Loc} {ls : Array Slot} (hf : f_M_keyHeard_17 K  F B = some (r, F9, B9)) (hZ : zH D ca ad lnM nM L F B A H) (hS : va_S A s.heap H locs) (hl : lv_has ls 10 []) : W p l e ({ frames := 6, cells := 0, slots := 0, locals := 168 } : Room) s m args below meth c H locs 0 0 (MQ below (Q_M_keyHeard D ca ad L r F9 B9 A) args s 0 0 A) (F0 m 17 ls []) := by
  obtain ⟨hx, hb, hr, hml, hown, hts, hlk, hK, hA, hL, hX⟩ := id X
  replace hf : (some ((-1), F, B)) = some (r, F9, B9) := hf
  refine lv_iconst (v := iI (-1)) hx hb d_15_195_17 rfl ?_
  cases hf
  exact W.iret hx hb hr (fun t ht hW => ⟨⟨_, (), rfl, rfl, by rw [ht]; exact hZ, va_K.moved hW.alike hK⟩, hS.F ht⟩) hS.2.2 d_15_195_18 hlk

def f_M_keyHeard (K : Nat) (l1 : Int) (F : zF) (B : zB) : zO := zbind (f_M_gather K l1 F B) (fun r1 F1 B1 => if r32 r1 then (if r1 = 0 then f_M_keyHeard_17 K F1 B1 else (if r1 ≤ 2000 then f_M_keyHeard_29 K K 0 (-1) (-1) r1 F1 B1 else f_M_keyHeard_17 K F1 B1)) else none)
set_option maxHeartbeats 4000000 in
set_option maxRecDepth 100000 in
theorem c_M_keyHeard {l : Launch} {D : va_G} {ca : Nat → ClassId} {ad : Nat → Int → Nat → Nat} {L : List Nat} {aS vS : Nat → Nat} {sz K : Nat} {l1 : Int} {F F9 : zF} {B B9 : zB} {r : Int} (hf : f_M_keyHeard K l1 F B = some (r, F9, B9)) : Met l ({ cls := "StaveHouseModel", name := "keyHeard", desc := "(LStaveHouseModel$Piece;)I" } : Jvm.MethodName) (Cond.code ({ cls := "StaveHouseModel", name := "keyHeard", desc := "(LStaveHouseModel$Piece;)I" } : Jvm.MethodName) prog_15_method_195_code 10 (Option.some Jvm.ClassFile.FieldType.int) :: wAll) ({ frames := 6, cells := 0, slots := 0, locals := 168 } : Room) (va_Pc [.ref (ad 14 0 0), .ref (ad 13 l1 0)] (zPre D ca ad lnM nM L aS vS F B sz)) (Q_M_keyHeard D ca ad L r F9 B9 (zA L sz)) 0 0 (zA L sz) := by
  refine zMet (Qc := Q_M_keyHeard D ca ad L r F9 B9) (lv := [(0, .ref (ad 14 0 0)), (1, .ref (ad 13 l1 0))]) (by decide) (Nat.le_of_ble_eq_true rfl) rfl (fun A p e s m below meth c ls X hZ hS hl => ?_)
  obtain ⟨hx, hb, hr, hml, hown, hts, hlk, hK, hA, hL, hX⟩ := id X
  replace hf : (zbind (f_M_gather K l1 F B) (fun r1 F1 B1 => if r32 r1 then (if r1 = 0 then f_M_keyHeard_17 K F1 B1 else (if r1 ≤ 2000 then f_M_keyHeard_29 K K 0 (-1) (-1) r1 F1 B1 else f_M_keyHeard_17 K F1 B1)) else none)) = some (r, F9, B9) := hf
  refine lv_aload_n hx hb d_15_195_0 rfl (lv_at hl 0 rfl) ?_
  refine lv_aload_n hx hb d_15_195_1 rfl (lv_at hl 1 rfl) ?_
  obtain ⟨r1, F1, B1, hc1, hf⟩ := gbind hf
  refine va_calli (va_runV (As := [.ref (ad 13 l1 0)]) (rest := []) ⟨hx, hb, hml, hown, hts⟩ (c_M_gather (l := l) hc1) (cwV 1 hts (gdV k_12_125 k_12_127 ks_132 k_1_9 k_12_128) rfl rfl rfl (by decide +kernel) ⟨Nat.le_of_ble_eq_true rfl, Nat.le_of_ble_eq_true rfl⟩) (zPV X hZ hS (ci := 14) (by decide) (by decide) (r := (RX14, TX14, 107)) rfl [.ref (ad 13 l1 0)]) rfl rfl hl.1 rfl (lv_room (Nat.le_of_ble_eq_true rfl)) d_15_195_2 ⟨Nat.le_of_ble_eq_true rfl, Nat.le_of_ble_eq_true rfl⟩) hS (fun q _ h => zAin X hS q h) (zAin X hS) (fun p1 u1 t1 H1 locs1 ht1 hv1 hw1 hB1 hz1 hk1 hS1 => ?_)
  have hZ1 := zBack X ht1 hB1
  subst hw1
  refine lv_istore_n (lv' := [(2, .int (iI r1)), (0, .ref (ad 14 0 0)), (1, .ref (ad 13 l1 0))]) hx hb d_15_195_5 rfl hl (by decide) rfl (fun ls hl => ?_)
  refine lv_iload_n hx hb d_15_195_6 rfl (lv_at hl 0 rfl) ?_
  obtain ⟨g2, hf⟩ := gif hf
  refine z0eq (tgt := 17) hx hb g2 d_15_195_7 (by decide) (fun h3 => ?_) (fun h3 => ?_)
  · replace hf := gpos hf h3
    exact b_M_keyHeard_17 X hf hZ1 hS1 (lv_sub hl [] rfl)
  · replace hf := gneg hf h3
    refine lv_iload_n hx hb d_15_195_10 rfl (lv_at hl 0 rfl) ?_
    refine lv_sipush (v := iI 2000) hx hb d_15_195_11 (by decide) ?_
    refine zle (tgt := 19) hx hb g2 (by decide) d_15_195_14 (by decide) (fun h4 => ?_) (fun h4 => ?_)
    · replace hf := gpos hf h4
      refine lv_ldc2 hx hb hown (hts _ k_12_105) d_15_195_19 ?_
      refine W.eq (g2 := F0 m 22 ls [.long (lI (-1))]) rfl ?_
      refine lv_lstore_n (lv' := [(3, .long (lI (-1))), (2, .int (iI r1)), (0, .ref (ad 14 0 0)), (1, .ref (ad 13 l1 0))]) hx hb d_15_195_22 rfl hl (by decide) rfl (fun ls hl => ?_)
      refine lv_iconst (v := iI (-1)) hx hb d_15_195_23 rfl ?_
      refine lv_istore (lv' := [(5, .int (iI (-1))), (3, .long (lI (-1))), (2, .int (iI r1)), (0, .ref (ad 14 0 0)), (1, .ref (ad 13 l1 0))]) hx hb d_15_195_24 hl (by decide) rfl (fun ls hl => ?_)
      refine lv_iconst (v := iI 0) hx hb d_15_195_26 rfl ?_
      refine lv_istore (lv' := [(6, .int (iI 0)), (5, .int (iI (-1))), (3, .long (lI (-1))), (2, .int (iI r1)), (0, .ref (ad 14 0 0)), (1, .ref (ad 13 l1 0))]) hx hb d_15_195_27 hl (by decide) rfl (fun ls hl => ?_)
      exact b_M_keyHeard_29 X hf hZ1 hS1 (lv_sub hl [0, 1, 2, 3, 4] rfl)
    · replace hf := gneg hf h4
      exact b_M_keyHeard_17 X hf hZ1 hS1 (lv_sub hl [] rfl)

abbrev Q_M_part (D : va_G) (ca : Nat → ClassId) (ad : Nat → Int → Nat → Nat) (L : List Nat) (r : Int) (F : zF) (B : zB) (A : Nat → Prop) : Array Value → State → Outcome → State → Prop := va_Qv (S := Unit) (fun _ => True) (fun _ => zPo D ca ad lnM nM L F B A) A
def f_M_part_338 (K : Nat)  (F : zF) (B : zB) : zO := some (0, F, B)
set_option maxHeartbeats 4000000 in
set_option maxRecDepth 100000 in
theorem b_M_part_338 {D : va_G} {ca : Nat → ClassId} {ad : Nat → Int → Nat → Nat} {L : List Nat} {aS vS : Nat → Nat} {A : Nat → Prop} {p : Program} {l : Launch} {e : Env} {s : State} {m : MethodId} {args : Array Value} {below : List Frame} {meth : Method} {c : Code} {K : Nat} {r : Int} {F9 : zF} {B9 : zB} (X : zX D ca L aS vS A p s m args meth c prog_15_method_88_code 21 (Option.none : Option Jvm.ClassFile.FieldType) "StaveHouseModel")  {F : zF} {B : zB} {H : Heap} {locs : List Loc} {ls : Array Slot} (hf : f_M_part_338 K  F B = some (r, F9, B9)) (hZ : zH D ca ad lnM nM L F B A H) (hS : va_S A s.heap H locs) (hl : lv_has ls 21 []) : W p l e ({ frames := 6, cells := 0, slots := 0, locals := 190 } : Room) s m args below meth c H locs 0 0 (MQ below (Q_M_part D ca ad L r F9 B9 A) args s 0 0 A) (F0 m 338 ls []) := by
  obtain ⟨hx, hb, hr, hml, hown, hts, hlk, hK, hA, hL, hX⟩ := id X
  replace hf : (some (0, F, B)) = some (r, F9, B9) := hf
  cases hf
  exact W.vret hx hb hr (fun t ht hW => ⟨⟨(), rfl, trivial, by rw [ht]; exact hZ, va_K.moved hW.alike hK⟩, hS.F ht⟩) hS.2.2 d_15_88_338 hlk

def f_M_part_216 (rec174 : Int → Int → Int → Int → Int → Int → Int → zF → zB → zO) (K : Nat) (l15 : Int) (l13 : Int) (l12 : Int) (l1 : Int) (l2 : Int) (l3 : Int) (l4 : Int) (F : zF) (B : zB) : zO := zbind (f_M_formUp K (F 14 0 57) F B) (fun r53 F53 B53 => zbind (f_M_formDown K (F53 14 0 56) (F53 14 0 57) F53 B53) (fun r54 F54 B54 => zbind (f_M_note_1 K l1 l2 l3 l4 (F54 14 0 56) (F54 14 0 57) F54 B54) (fun r55 F55 B55 => zbind (f_M_minus K (F55 14 0 52) (F55 14 0 53) r53 r54 F55 B55) (fun r56 F56 B56 => zbind (f_M_times K r53 r54 l13 l15 (zup3 (zup3 F56 14 0 52 (F56 14 0 0)) 14 0 53 (F56 14 0 1)) B56) (fun r59 F59 B59 => zbind (f_M_plus K (F59 14 0 54) (F59 14 0 55) (F59 14 0 0) (F59 14 0 1) F59 B59) (fun r60 F60 B60 => rec174 l15 l13 l12 l1 l2 l3 l4 (zup3 (zup3 F60 14 0 54 (F60 14 0 0)) 14 0 55 (F60 14 0 1)) B60))))))
set_option maxHeartbeats 4000000 in
set_option maxRecDepth 100000 in
theorem b_M_part_216 {D : va_G} {ca : Nat → ClassId} {ad : Nat → Int → Nat → Nat} {L : List Nat} {aS vS : Nat → Nat} {A : Nat → Prop} {p : Program} {l : Launch} {e : Env} {s : State} {m : MethodId} {args : Array Value} {below : List Frame} {meth : Method} {c : Code} {K : Nat} {r : Int} {F9 : zF} {B9 : zB} (X : zX D ca L aS vS A p s m args meth c prog_15_method_88_code 21 (Option.none : Option Jvm.ClassFile.FieldType) "StaveHouseModel") {rec174 : Int → Int → Int → Int → Int → Int → Int → zF → zB → zO} (hrec174 : ∀ {l15 : Int} {l13 : Int} {l12 : Int} {l1 : Int} {l2 : Int} {l3 : Int} {l4 : Int} {F : zF} {B : zB} {H : Heap} {locs : List Loc} {ls : Array Slot}, rec174 l15 l13 l12 l1 l2 l3 l4 F B = some (r, F9, B9) → zH D ca ad lnM nM L F B A H → va_S A s.heap H locs → lv_has ls 21 [(15, .long (lI l15)), (13, .long (lI l13)), (12, .int (iI l12)), (0, .ref (ad 14 0 0)), (1, .ref (ad 13 l1 0)), (2, .int (iI l2)), (3, .int (iI l3)), (4, .int (iI l4))] → W p l e ({ frames := 6, cells := 0, slots := 0, locals := 190 } : Room) s m args below meth c H locs 0 0 (MQ below (Q_M_part D ca ad L r F9 B9 A) args s 0 0 A) (F0 m 174 ls [])) {l15 : Int} {l13 : Int} {l12 : Int} {l1 : Int} {l2 : Int} {l3 : Int} {l4 : Int} {F : zF} {B : zB} {H : Heap} {locs : List Loc} {ls : Array Slot} (hf : f_M_part_216 rec174 K l15 l13 l12 l1 l2 l3 l4 F B = some (r, F9, B9)) (hZ : zH D ca ad lnM nM L F B A H) (hS : va_S A s.heap H locs) (hl : lv_has ls 21 [(15, .long (lI l15)), (13, .long (lI l13)), (12, .int (iI l12)), (0, .ref (ad 14 0 0)), (1, .ref (ad 13 l1 0)), (2, .int (iI l2)), (3, .int (iI l3)), (4, .int (iI l4))]) : W p l e ({ frames := 6, cells := 0, slots := 0, locals := 190 } : Room) s m args below meth c H locs 0 0 (MQ below (Q_M_part D ca ad L r F9 B9 A) args s 0 0 A) (F0 m 216 ls []) := by
  obtain ⟨hx, hb, hr, hml, hown, hts, hlk, hK, hA, hL, hX⟩ := id X
  replace hf : (zbind (f_M_formUp K (F 14 0 57) F B) (fun r53 F53 B53 => zbind (f_M_formDown K (F53 14 0 56) (F53 14 0 57) F53 B53) (fun r54 F54 B54 => zbind (f_M_note_1 K l1 l2 l3 l4 (F54 14 0 56) (F54 14 0 57) F54 B54) (fun r55 F55 B55 => zbind (f_M_minus K (F55 14 0 52) (F55 14 0 53) r53 r54 F55 B55) (fun r56 F56 B56 => zbind (f_M_times K r53 r54 l13 l15 (zup3 (zup3 F56 14 0 52 (F56 14 0 0)) 14 0 53 (F56 14 0 1)) B56) (fun r59 F59 B59 => zbind (f_M_plus K (F59 14 0 54) (F59 14 0 55) (F59 14 0 0) (F59 14 0 1) F59 B59) (fun r60 F60 B60 => rec174 l15 l13 l12 l1 l2 l3 l4 (zup3 (zup3 F60 14 0 54 (F60 14 0 0)) 14 0 55 (F60 14 0 1)) B60))))))) = some (r, F9, B9) := hf
  refine lv_aload_n hx hb d_15_88_216 rfl (lv_at hl 3 rfl) ?_
  refine zget (ci := 14) (C := RX14) (T := TX14) (v := .int (iI (F 14 0 57))) (k := 57) hx hb hts inW_14 hown hK hZ (by decide) (by decide) rfl (by decide) k_11_55 rfl d_15_88_217 ?_
  obtain ⟨r53, F53, B53, hc53, hf⟩ := gbind hf
  refine va_calll (va_runS (As := [.int (iI (F 14 0 57))]) (rest := []) ⟨hx, hb, hml, hown, hts⟩ (c_M_formUp (l := l) hc53) (va_cwS 1 hts (gdS k_13_163 k_13_164 k_1_9 k_13_165) rfl rfl rfl (by decide +kernel) ⟨Nat.le_of_ble_eq_true rfl, Nat.le_of_ble_eq_true rfl⟩) (zPS X hZ hS [.int (iI (F 14 0 57))]) rfl rfl hl.1 rfl (lv_room (Nat.le_of_ble_eq_true rfl)) d_15_88_220 ⟨Nat.le_of_ble_eq_true rfl, Nat.le_of_ble_eq_true rfl⟩) hS (fun q _ h => zAin X hS q h) (zAin X hS) (fun p53 u53 t53 H53 locs53 ht53 hv53 hw53 hB53 hz53 hk53 hS53 => ?_)
  have hZ53 := zBack X ht53 hB53
  subst hw53
  refine lv_lstore (lv' := [(17, .long (lI r53)), (15, .long (lI l15)), (13, .long (lI l13)), (12, .int (iI l12)), (0, .ref (ad 14 0 0)), (1, .ref (ad 13 l1 0)), (2, .int (iI l2)), (3, .int (iI l3)), (4, .int (iI l4))]) hx hb d_15_88_223 hl (by decide) rfl (fun ls hl => ?_)
  refine lv_aload_n hx hb d_15_88_225 rfl (lv_at hl 4 rfl) ?_
  refine zget (ci := 14) (C := RX14) (T := TX14) (v := .int (iI (F53 14 0 56))) (k := 56) hx hb hts inW_14 hown hK hZ53 (by decide) (by decide) rfl (by decide) k_11_54 rfl d_15_88_226 ?_
  refine lv_aload_n hx hb d_15_88_229 rfl (lv_at hl 4 rfl) ?_
  refine zget (ci := 14) (C := RX14) (T := TX14) (v := .int (iI (F53 14 0 57))) (k := 57) hx hb hts inW_14 hown hK hZ53 (by decide) (by decide) rfl (by decide) k_11_55 rfl d_15_88_230 ?_
  obtain ⟨r54, F54, B54, hc54, hf⟩ := gbind hf
  refine va_calll (va_runS (As := [.int (iI (F53 14 0 56)), .int (iI (F53 14 0 57))]) (rest := []) ⟨hx, hb, hml, hown, hts⟩ (c_M_formDown (l := l) hc54) (va_cwS 2 hts (gdS k_13_168 k_13_169 k_1_9 k_13_170) rfl rfl rfl (by decide +kernel) ⟨Nat.le_of_ble_eq_true rfl, Nat.le_of_ble_eq_true rfl⟩) (zPS X hZ53 hS53 [.int (iI (F53 14 0 56)), .int (iI (F53 14 0 57))]) rfl rfl hl.1 rfl (lv_room (Nat.le_of_ble_eq_true rfl)) d_15_88_233 ⟨Nat.le_of_ble_eq_true rfl, Nat.le_of_ble_eq_true rfl⟩) hS53 (fun q _ h => zAin X hS53 q h) (zAin X hS53) (fun p54 u54 t54 H54 locs54 ht54 hv54 hw54 hB54 hz54 hk54 hS54 => ?_)
  have hZ54 := zBack X ht54 hB54
  subst hw54
  refine lv_lstore (lv' := [(19, .long (lI r54)), (17, .long (lI r53)), (15, .long (lI l15)), (13, .long (lI l13)), (12, .int (iI l12)), (0, .ref (ad 14 0 0)), (1, .ref (ad 13 l1 0)), (2, .int (iI l2)), (3, .int (iI l3)), (4, .int (iI l4))]) hx hb d_15_88_236 hl (by decide) rfl (fun ls hl => ?_)
  refine lv_aload_n hx hb d_15_88_238 rfl (lv_at hl 5 rfl) ?_
  refine lv_aload_n hx hb d_15_88_239 rfl (lv_at hl 6 rfl) ?_
  refine lv_iload_n hx hb d_15_88_240 rfl (lv_at hl 7 rfl) ?_
  refine lv_iload_n hx hb d_15_88_241 rfl (lv_at hl 8 rfl) ?_
  refine lv_iload hx hb d_15_88_242 (lv_at hl 9 rfl) ?_
  refine lv_aload_n hx hb d_15_88_244 rfl (lv_at hl 5 rfl) ?_
  refine zget (ci := 14) (C := RX14) (T := TX14) (v := .int (iI (F54 14 0 56))) (k := 56) hx hb hts inW_14 hown hK hZ54 (by decide) (by decide) rfl (by decide) k_11_54 rfl d_15_88_245 ?_
  refine lv_aload_n hx hb d_15_88_248 rfl (lv_at hl 5 rfl) ?_
  refine zget (ci := 14) (C := RX14) (T := TX14) (v := .int (iI (F54 14 0 57))) (k := 57) hx hb hts inW_14 hown hK hZ54 (by decide) (by decide) rfl (by decide) k_11_55 rfl d_15_88_249 ?_
  obtain ⟨r55, F55, B55, hc55, hf⟩ := gbind hf
  refine va_callv (va_runV (As := [.ref (ad 13 l1 0), .int (iI l2), .int (iI l3), .int (iI l4), .int (iI (F54 14 0 56)), .int (iI (F54 14 0 57))]) (rest := []) ⟨hx, hb, hml, hown, hts⟩ (c_M_note_1 (l := l) hc55) (cwV 6 hts (gdV k_13_151 k_13_153 ks_178 k_1_9 k_13_154) rfl rfl rfl (by decide +kernel) ⟨Nat.le_of_ble_eq_true rfl, Nat.le_of_ble_eq_true rfl⟩) (zPV X hZ54 hS54 (ci := 14) (by decide) (by decide) (r := (RX14, TX14, 107)) rfl [.ref (ad 13 l1 0), .int (iI l2), .int (iI l3), .int (iI l4), .int (iI (F54 14 0 56)), .int (iI (F54 14 0 57))]) rfl rfl hl.1 rfl (lv_room (Nat.le_of_ble_eq_true rfl)) d_15_88_252 ⟨Nat.le_of_ble_eq_true rfl, Nat.le_of_ble_eq_true rfl⟩) hS54 (fun q _ h => zAin X hS54 q h) (zAin X hS54) (fun u55 t55 H55 locs55 ht55 hv55 hw55 hB55 hz55 hk55 hS55 => ?_)
  have hZ55 := zBack X ht55 hB55
  refine lv_aload_n hx hb d_15_88_255 rfl (lv_at hl 5 rfl) ?_
  refine lv_aload_n hx hb d_15_88_256 rfl (lv_at hl 5 rfl) ?_
  refine zget (ci := 14) (C := RX14) (T := TX14) (v := .long (lI (F55 14 0 52))) (k := 52) hx hb hts inW_14 hown hK hZ55 (by decide) (by decide) rfl (by decide) k_11_50 rfl d_15_88_257 ?_
  refine lv_aload_n hx hb d_15_88_260 rfl (lv_at hl 5 rfl) ?_
  refine zget (ci := 14) (C := RX14) (T := TX14) (v := .long (lI (F55 14 0 53))) (k := 53) hx hb hts inW_14 hown hK hZ55 (by decide) (by decide) rfl (by decide) k_11_51 rfl d_15_88_261 ?_
  refine lv_lload hx hb d_15_88_264 (lv_at hl 1 rfl) ?_
  refine lv_lload hx hb d_15_88_266 (lv_at hl 0 rfl) ?_
  obtain ⟨r56, F56, B56, hc56, hf⟩ := gbind hf
  refine va_callv (va_runV (As := [.long (lI (F55 14 0 52)), .long (lI (F55 14 0 53)), .long (lI r53), .long (lI r54)]) (rest := []) ⟨hx, hb, hml, hown, hts⟩ (c_M_minus (l := l) hc56) (cwV 4 hts (gdV k_13_132 k_13_134 ks_174 k_1_9 k_13_135) rfl rfl rfl (by decide +kernel) ⟨Nat.le_of_ble_eq_true rfl, Nat.le_of_ble_eq_true rfl⟩) (zPV X hZ55 hS55 (ci := 14) (by decide) (by decide) (r := (RX14, TX14, 107)) rfl [.long (lI (F55 14 0 52)), .long (lI (F55 14 0 53)), .long (lI r53), .long (lI r54)]) rfl rfl hl.1 rfl (lv_room (Nat.le_of_ble_eq_true rfl)) d_15_88_268 ⟨Nat.le_of_ble_eq_true rfl, Nat.le_of_ble_eq_true rfl⟩) hS55 (fun q _ h => zAin X hS55 q h) (zAin X hS55) (fun u56 t56 H56 locs56 ht56 hv56 hw56 hB56 hz56 hk56 hS56 => ?_)
  have hZ56 := zBack X ht56 hB56
  refine lv_aload_n hx hb d_15_88_271 rfl (lv_at hl 5 rfl) ?_
  refine lv_aload_n hx hb d_15_88_272 rfl (lv_at hl 5 rfl) ?_
  refine zget (ci := 14) (C := RX14) (T := TX14) (v := .long (lI (F56 14 0 0))) (k := 0) hx hb hts inW_14 hown hK hZ56 (by decide) (by decide) rfl (by decide) k_10_238 rfl d_15_88_273 ?_
  refine zput (ci := 14) (C := RX14) (T := TX14) (k := 52) (v := (F56 14 0 0)) (w := .long (lI (F56 14 0 0))) hx hb hts inW_14 tyX14 tyX14_ok nmX14 hown hK hZ56 hS56 (by decide) (by decide) rfl (by decide) k_11_50 rfl (fun G h => congrArg (fun q => Value.long (lI q)) h) rfl rfl d_15_88_276 (fun H57 locs57 hZ57 hS57 => ?_)
  refine lv_aload_n hx hb d_15_88_279 rfl (lv_at hl 5 rfl) ?_
  refine lv_aload_n hx hb d_15_88_280 rfl (lv_at hl 5 rfl) ?_
  refine zget (ci := 14) (C := RX14) (T := TX14) (v := .long (lI (F56 14 0 1))) (k := 1) hx hb hts inW_14 hown hK hZ57 (by decide) (by decide) rfl (by decide) k_10_239 rfl d_15_88_281 ?_
  refine zput (ci := 14) (C := RX14) (T := TX14) (k := 53) (v := (F56 14 0 1)) (w := .long (lI (F56 14 0 1))) hx hb hts inW_14 tyX14 tyX14_ok nmX14 hown hK hZ57 hS57 (by decide) (by decide) rfl (by decide) k_11_51 rfl (fun G h => congrArg (fun q => Value.long (lI q)) h) rfl rfl d_15_88_284 (fun H58 locs58 hZ58 hS58 => ?_)
  refine lv_aload_n hx hb d_15_88_287 rfl (lv_at hl 5 rfl) ?_
  refine lv_lload hx hb d_15_88_288 (lv_at hl 1 rfl) ?_
  refine lv_lload hx hb d_15_88_290 (lv_at hl 0 rfl) ?_
  refine lv_lload hx hb d_15_88_292 (lv_at hl 3 rfl) ?_
  refine lv_lload hx hb d_15_88_294 (lv_at hl 2 rfl) ?_
  obtain ⟨r59, F59, B59, hc59, hf⟩ := gbind hf
  refine va_callv (va_runV (As := [.long (lI r53), .long (lI r54), .long (lI l13), .long (lI l15)]) (rest := []) ⟨hx, hb, hml, hown, hts⟩ (c_M_times (l := l) hc59) (cwV 4 hts (gdV k_13_155 k_13_157 ks_179 k_1_9 k_13_158) rfl rfl rfl (by decide +kernel) ⟨Nat.le_of_ble_eq_true rfl, Nat.le_of_ble_eq_true rfl⟩) (zPV X hZ58 hS58 (ci := 14) (by decide) (by decide) (r := (RX14, TX14, 107)) rfl [.long (lI r53), .long (lI r54), .long (lI l13), .long (lI l15)]) rfl rfl hl.1 rfl (lv_room (Nat.le_of_ble_eq_true rfl)) d_15_88_296 ⟨Nat.le_of_ble_eq_true rfl, Nat.le_of_ble_eq_true rfl⟩) hS58 (fun q _ h => zAin X hS58 q h) (zAin X hS58) (fun u59 t59 H59 locs59 ht59 hv59 hw59 hB59 hz59 hk59 hS59 => ?_)
  have hZ59 := zBack X ht59 hB59
  refine lv_aload_n hx hb d_15_88_299 rfl (lv_at hl 5 rfl) ?_
  refine lv_aload_n hx hb d_15_88_300 rfl (lv_at hl 5 rfl) ?_
  refine zget (ci := 14) (C := RX14) (T := TX14) (v := .long (lI (F59 14 0 54))) (k := 54) hx hb hts inW_14 hown hK hZ59 (by decide) (by decide) rfl (by decide) k_11_52 rfl d_15_88_301 ?_
  refine lv_aload_n hx hb d_15_88_304 rfl (lv_at hl 5 rfl) ?_
  refine zget (ci := 14) (C := RX14) (T := TX14) (v := .long (lI (F59 14 0 55))) (k := 55) hx hb hts inW_14 hown hK hZ59 (by decide) (by decide) rfl (by decide) k_11_53 rfl d_15_88_305 ?_
  refine lv_aload_n hx hb d_15_88_308 rfl (lv_at hl 5 rfl) ?_
  refine zget (ci := 14) (C := RX14) (T := TX14) (v := .long (lI (F59 14 0 0))) (k := 0) hx hb hts inW_14 hown hK hZ59 (by decide) (by decide) rfl (by decide) k_10_238 rfl d_15_88_309 ?_
  refine lv_aload_n hx hb d_15_88_312 rfl (lv_at hl 5 rfl) ?_
  refine zget (ci := 14) (C := RX14) (T := TX14) (v := .long (lI (F59 14 0 1))) (k := 1) hx hb hts inW_14 hown hK hZ59 (by decide) (by decide) rfl (by decide) k_10_239 rfl d_15_88_313 ?_
  obtain ⟨r60, F60, B60, hc60, hf⟩ := gbind hf
  refine va_callv (va_runV (As := [.long (lI (F59 14 0 54)), .long (lI (F59 14 0 55)), .long (lI (F59 14 0 0)), .long (lI (F59 14 0 1))]) (rest := []) ⟨hx, hb, hml, hown, hts⟩ (c_M_plus (l := l) hc60) (cwV 4 hts (gdV k_12_147 k_12_149 ks_135 k_1_9 k_12_150) rfl rfl rfl (by decide +kernel) ⟨Nat.le_of_ble_eq_true rfl, Nat.le_of_ble_eq_true rfl⟩) (zPV X hZ59 hS59 (ci := 14) (by decide) (by decide) (r := (RX14, TX14, 107)) rfl [.long (lI (F59 14 0 54)), .long (lI (F59 14 0 55)), .long (lI (F59 14 0 0)), .long (lI (F59 14 0 1))]) rfl rfl hl.1 rfl (lv_room (Nat.le_of_ble_eq_true rfl)) d_15_88_316 ⟨Nat.le_of_ble_eq_true rfl, Nat.le_of_ble_eq_true rfl⟩) hS59 (fun q _ h => zAin X hS59 q h) (zAin X hS59) (fun u60 t60 H60 locs60 ht60 hv60 hw60 hB60 hz60 hk60 hS60 => ?_)
  have hZ60 := zBack X ht60 hB60
  refine lv_aload_n hx hb d_15_88_319 rfl (lv_at hl 5 rfl) ?_
  refine lv_aload_n hx hb d_15_88_320 rfl (lv_at hl 5 rfl) ?_
  refine zget (ci := 14) (C := RX14) (T := TX14) (v := .long (lI (F60 14 0 0))) (k := 0) hx hb hts inW_14 hown hK hZ60 (by decide) (by decide) rfl (by decide) k_10_238 rfl d_15_88_321 ?_
  refine zput (ci := 14) (C := RX14) (T := TX14) (k := 54) (v := (F60 14 0 0)) (w := .long (lI (F60 14 0 0))) hx hb hts inW_14 tyX14 tyX14_ok nmX14 hown hK hZ60 hS60 (by decide) (by decide) rfl (by decide) k_11_52 rfl (fun G h => congrArg (fun q => Value.long (lI q)) h) rfl rfl d_15_88_324 (fun H61 locs61 hZ61 hS61 => ?_)
  refine lv_aload_n hx hb d_15_88_327 rfl (lv_at hl 5 rfl) ?_
  refine lv_aload_n hx hb d_15_88_328 rfl (lv_at hl 5 rfl) ?_
  refine zget (ci := 14) (C := RX14) (T := TX14) (v := .long (lI (F60 14 0 1))) (k := 1) hx hb hts inW_14 hown hK hZ61 (by decide) (by decide) rfl (by decide) k_10_239 rfl d_15_88_329 ?_
  refine zput (ci := 14) (C := RX14) (T := TX14) (k := 55) (v := (F60 14 0 1)) (w := .long (lI (F60 14 0 1))) hx hb hts inW_14 tyX14 tyX14_ok nmX14 hown hK hZ61 hS61 (by decide) (by decide) rfl (by decide) k_11_53 rfl (fun G h => congrArg (fun q => Value.long (lI q)) h) rfl rfl d_15_88_332 (fun H62 locs62 hZ62 hS62 => ?_)
  refine lv_goto (tgt := 174) hx hb d_15_88_335 (by decide) ?_
  exact hrec174 hf hZ62 hS62 (lv_sub hl [2, 3, 4, 5, 6, 7, 8, 9] rfl)

def f_M_part_209 (rec174 : Int → Int → Int → Int → Int → Int → Int → zF → zB → zO) (K : Nat) (l15 : Int) (l13 : Int) (l12 : Int) (l1 : Int) (l2 : Int) (l3 : Int) (l4 : Int) (F : zF) (B : zB) : zO := zbind (f_M_choose K l1 0 F B) (fun r52 F52 B52 => f_M_part_216 rec174 K l15 l13 l12 l1 l2 l3 l4 F52 B52)
set_option maxHeartbeats 4000000 in
set_option maxRecDepth 100000 in
theorem b_M_part_209 {D : va_G} {ca : Nat → ClassId} {ad : Nat → Int → Nat → Nat} {L : List Nat} {aS vS : Nat → Nat} {A : Nat → Prop} {p : Program} {l : Launch} {e : Env} {s : State} {m : MethodId} {args : Array Value} {below : List Frame} {meth : Method} {c : Code} {K : Nat} {r : Int} {F9 : zF} {B9 : zB} (X : zX D ca L aS vS A p s m args meth c prog_15_method_88_code 21 (Option.none : Option Jvm.ClassFile.FieldType) "StaveHouseModel") {rec174 : Int → Int → Int → Int → Int → Int → Int → zF → zB → zO} (hrec174 : ∀ {l15 : Int} {l13 : Int} {l12 : Int} {l1 : Int} {l2 : Int} {l3 : Int} {l4 : Int} {F : zF} {B : zB} {H : Heap} {locs : List Loc} {ls : Array Slot}, rec174 l15 l13 l12 l1 l2 l3 l4 F B = some (r, F9, B9) → zH D ca ad lnM nM L F B A H → va_S A s.heap H locs → lv_has ls 21 [(15, .long (lI l15)), (13, .long (lI l13)), (12, .int (iI l12)), (0, .ref (ad 14 0 0)), (1, .ref (ad 13 l1 0)), (2, .int (iI l2)), (3, .int (iI l3)), (4, .int (iI l4))] → W p l e ({ frames := 6, cells := 0, slots := 0, locals := 190 } : Room) s m args below meth c H locs 0 0 (MQ below (Q_M_part D ca ad L r F9 B9 A) args s 0 0 A) (F0 m 174 ls [])) {l15 : Int} {l13 : Int} {l12 : Int} {l1 : Int} {l2 : Int} {l3 : Int} {l4 : Int} {F : zF} {B : zB} {H : Heap} {locs : List Loc} {ls : Array Slot} (hf : f_M_part_209 rec174 K l15 l13 l12 l1 l2 l3 l4 F B = some (r, F9, B9)) (hZ : zH D ca ad lnM nM L F B A H) (hS : va_S A s.heap H locs) (hl : lv_has ls 21 [(15, .long (lI l15)), (13, .long (lI l13)), (12, .int (iI l12)), (0, .ref (ad 14 0 0)), (1, .ref (ad 13 l1 0)), (2, .int (iI l2)), (3, .int (iI l3)), (4, .int (iI l4))]) : W p l e ({ frames := 6, cells := 0, slots := 0, locals := 190 } : Room) s m args below meth c H locs 0 0 (MQ below (Q_M_part D ca ad L r F9 B9 A) args s 0 0 A) (F0 m 209 ls []) := by
  obtain ⟨hx, hb, hr, hml, hown, hts, hlk, hK, hA, hL, hX⟩ := id X
  replace hf : (zbind (f_M_choose K l1 0 F B) (fun r52 F52 B52 => f_M_part_216 rec174 K l15 l13 l12 l1 l2 l3 l4 F52 B52)) = some (r, F9, B9) := hf
  refine lv_aload_n hx hb d_15_88_209 rfl (lv_at hl 3 rfl) ?_
  refine lv_aload_n hx hb d_15_88_210 rfl (lv_at hl 4 rfl) ?_
  refine lv_iconst (v := iI 0) hx hb d_15_88_211 rfl ?_
  obtain ⟨r52, F52, B52, hc52, hf⟩ := gbind hf
  refine va_calli (va_runV (As := [.ref (ad 13 l1 0), .int (iI 0)]) (rest := []) ⟨hx, hb, hml, hown, hts⟩ (c_M_choose (l := l) hc52) (cwV 2 hts (gdV k_13_159 k_13_161 ks_180 k_1_9 k_13_162) rfl rfl rfl (by decide +kernel) ⟨Nat.le_of_ble_eq_true rfl, Nat.le_of_ble_eq_true rfl⟩) (zPV X hZ hS (ci := 14) (by decide) (by decide) (r := (RX14, TX14, 107)) rfl [.ref (ad 13 l1 0), .int (iI 0)]) rfl rfl hl.1 rfl (lv_room (Nat.le_of_ble_eq_true rfl)) d_15_88_212 ⟨Nat.le_of_ble_eq_true rfl, Nat.le_of_ble_eq_true rfl⟩) hS (fun q _ h => zAin X hS q h) (zAin X hS) (fun p52 u52 t52 H52 locs52 ht52 hv52 hw52 hB52 hz52 hk52 hS52 => ?_)
  have hZ52 := zBack X ht52 hB52
  subst hw52
  refine lv_pop hx hb d_15_88_215 rfl ?_
  exact b_M_part_216 X hrec174 hf hZ52 hS52 (lv_sub hl [0, 1, 2, 3, 4, 5, 6, 7] rfl)

def f_M_part_174 (K : Nat) : Nat → Int → Int → Int → Int → Int → Int → Int → zF → zB → zO
  | 0, _, _, _, _, _, _, _, _, _ => none
  | n + 1, l15, l13, l12, l1, l2, l3, l4, F, B => if r64 (F 14 0 52) then (if (zcmp (F 14 0 52) 0) ≤ 0 then f_M_part_338 K F B else if 0 ≤ l1 ∧ l1 < 3 then if 0 ≤ l2 ∧ l2 < 4 then if r32 (B 13 l1 13 l2) then (if 800 < (B 13 l1 13 l2) then f_M_part_338 K F B else if r32 l12 then (if l12 = 0 then zbind (f_M_choose K l1 1 F B) (fun r49 F49 B49 => if r32 r49 then (if r49 = 0 then f_M_part_209 (f_M_part_174 K n) K l15 l13 l12 l1 l2 l3 l4 F49 B49 else f_M_part_216 (f_M_part_174 K n) K l15 l13 l12 l1 l2 l3 l4 F49 B49) else none) else f_M_part_209 (f_M_part_174 K n) K l15 l13 l12 l1 l2 l3 l4 F B) else none) else none else none else none) else none
set_option maxHeartbeats 4000000 in
set_option maxRecDepth 100000 in
theorem b_M_part_174 {D : va_G} {ca : Nat → ClassId} {ad : Nat → Int → Nat → Nat} {L : List Nat} {aS vS : Nat → Nat} {A : Nat → Prop} {p : Program} {l : Launch} {e : Env} {s : State} {m : MethodId} {args : Array Value} {below : List Frame} {meth : Method} {c : Code} {K : Nat} {r : Int} {F9 : zF} {B9 : zB} (X : zX D ca L aS vS A p s m args meth c prog_15_method_88_code 21 (Option.none : Option Jvm.ClassFile.FieldType) "StaveHouseModel") : ∀ {n : Nat} {l15 : Int} {l13 : Int} {l12 : Int} {l1 : Int} {l2 : Int} {l3 : Int} {l4 : Int} {F : zF} {B : zB} {H : Heap} {locs : List Loc} {ls : Array Slot}, f_M_part_174 K n l15 l13 l12 l1 l2 l3 l4 F B = some (r, F9, B9) → zH D ca ad lnM nM L F B A H → va_S A s.heap H locs → lv_has ls 21 [(15, .long (lI l15)), (13, .long (lI l13)), (12, .int (iI l12)), (0, .ref (ad 14 0 0)), (1, .ref (ad 13 l1 0)), (2, .int (iI l2)), (3, .int (iI l3)), (4, .int (iI l4))] → W p l e ({ frames := 6, cells := 0, slots := 0, locals := 190 } : Room) s m args below meth c H locs 0 0 (MQ below (Q_M_part D ca ad L r F9 B9 A) args s 0 0 A) (F0 m 174 ls []) := by
  obtain ⟨hx, hb, hr, hml, hown, hts, hlk, hK, hA, hL, hX⟩ := id X
  intro n
  induction n with
  | zero =>
    intros
    rename_i hf _ _ _
    cases hf
  | succ n ih =>
    intro l15 l13 l12 l1 l2 l3 l4 F B H locs ls hf hZ hS hl
    replace hf : (if r64 (F 14 0 52) then (if (zcmp (F 14 0 52) 0) ≤ 0 then f_M_part_338 K F B else if 0 ≤ l1 ∧ l1 < 3 then if 0 ≤ l2 ∧ l2 < 4 then if r32 (B 13 l1 13 l2) then (if 800 < (B 13 l1 13 l2) then f_M_part_338 K F B else if r32 l12 then (if l12 = 0 then zbind (f_M_choose K l1 1 F B) (fun r49 F49 B49 => if r32 r49 then (if r49 = 0 then f_M_part_209 (f_M_part_174 K n) K l15 l13 l12 l1 l2 l3 l4 F49 B49 else f_M_part_216 (f_M_part_174 K n) K l15 l13 l12 l1 l2 l3 l4 F49 B49) else none) else f_M_part_209 (f_M_part_174 K n) K l15 l13 l12 l1 l2 l3 l4 F B) else none) else none else none else none) else none) = some (r, F9, B9) := hf
    refine lv_aload_n hx hb d_15_88_174 rfl (lv_at hl 3 rfl) ?_
    refine zget (ci := 14) (C := RX14) (T := TX14) (v := .long (lI (F 14 0 52))) (k := 52) hx hb hts inW_14 hown hK hZ (by decide) (by decide) rfl (by decide) k_11_50 rfl d_15_88_175 ?_
    refine lv_lconst (v := lI 0) hx hb d_15_88_178 (by decide) ?_
    obtain ⟨g41, hf⟩ := gif hf
    refine zcmp_r hx hb g41 (by decide) d_15_88_179 ?_
    refine z0le (tgt := 338) hx hb zcmp_32 d_15_88_180 (by decide) (fun h42 => ?_) (fun h42 => ?_)
    · replace hf := gpos hf h42
      exact b_M_part_338 X hf hZ hS (lv_sub hl [] rfl)
    · replace hf := gneg hf h42
      refine lv_aload_n hx hb d_15_88_183 rfl (lv_at hl 4 rfl) ?_
      obtain ⟨g43, hf⟩ := gif hf
      refine zget (ci := 13) (C := RX13) (T := TX13) (v := .ref (ad 13 l1 (13 + 1))) (k := 13) hx hb hts inW_13 hown hK hZ g43.1 g43.2 rfl (by decide) k_9_144 rfl d_15_88_184 ?_
      refine lv_iload_n hx hb d_15_88_187 rfl (lv_at hl 5 rfl) ?_
      obtain ⟨g44, hf⟩ := gif hf
      refine zald (ci := 13) (k := 13) hx hb hK rfl hZ g43.1 g43.2 rfl (Nat.le_of_ble_eq_true rfl) g44.1 g44.2 d_15_88_188 ?_
      refine lv_sipush (v := iI 800) hx hb d_15_88_189 (by decide) ?_
      obtain ⟨g45, hf⟩ := gif hf
      refine zgt (tgt := 338) hx hb g45 (by decide) d_15_88_192 (by decide) (fun h46 => ?_) (fun h46 => ?_)
      · replace hf := gpos hf h46
        exact b_M_part_338 X hf hZ hS (lv_sub hl [] rfl)
      · replace hf := gneg hf h46
        refine lv_iload hx hb d_15_88_195 (lv_at hl 2 rfl) ?_
        obtain ⟨g47, hf⟩ := gif hf
        refine z0ne (tgt := 209) hx hb g47 d_15_88_197 (by decide) (fun h48 => ?_) (fun h48 => ?_)
        · replace hf := gneg hf h48
          exact b_M_part_209 X ih hf hZ hS (lv_sub hl [0, 1, 2, 3, 4, 5, 6, 7] rfl)
        · replace hf := gpos hf h48
          refine lv_aload_n hx hb d_15_88_200 rfl (lv_at hl 3 rfl) ?_
          refine lv_aload_n hx hb d_15_88_201 rfl (lv_at hl 4 rfl) ?_
          refine lv_iconst (v := iI 1) hx hb d_15_88_202 rfl ?_
          obtain ⟨r49, F49, B49, hc49, hf⟩ := gbind hf
          refine va_calli (va_runV (As := [.ref (ad 13 l1 0), .int (iI 1)]) (rest := []) ⟨hx, hb, hml, hown, hts⟩ (c_M_choose (l := l) hc49) (cwV 2 hts (gdV k_13_159 k_13_161 ks_180 k_1_9 k_13_162) rfl rfl rfl (by decide +kernel) ⟨Nat.le_of_ble_eq_true rfl, Nat.le_of_ble_eq_true rfl⟩) (zPV X hZ hS (ci := 14) (by decide) (by decide) (r := (RX14, TX14, 107)) rfl [.ref (ad 13 l1 0), .int (iI 1)]) rfl rfl hl.1 rfl (lv_room (Nat.le_of_ble_eq_true rfl)) d_15_88_203 ⟨Nat.le_of_ble_eq_true rfl, Nat.le_of_ble_eq_true rfl⟩) hS (fun q _ h => zAin X hS q h) (zAin X hS) (fun p49 u49 t49 H49 locs49 ht49 hv49 hw49 hB49 hz49 hk49 hS49 => ?_)
          have hZ49 := zBack X ht49 hB49
          subst hw49
          obtain ⟨g50, hf⟩ := gif hf
          refine z0ne (tgt := 216) hx hb g50 d_15_88_206 (by decide) (fun h51 => ?_) (fun h51 => ?_)
          · replace hf := gneg hf h51
            exact b_M_part_216 X ih hf hZ49 hS49 (lv_sub hl [0, 1, 2, 3, 4, 5, 6, 7] rfl)
          · replace hf := gpos hf h51
            exact b_M_part_209 X ih hf hZ49 hS49 (lv_sub hl [0, 1, 2, 3, 4, 5, 6, 7] rfl)

def f_M_part_146 (K : Nat) (l15 : Int) (l13 : Int) (l12 : Int) (l1 : Int) (l2 : Int) (l3 : Int) (l4 : Int) (l5 : Int) (l7 : Int) (F : zF) (B : zB) : zO := zbind (f_M_times K l5 l7 l15 l13 F B) (fun r38 F38 B38 => f_M_part_174 K K l15 l13 l12 l1 l2 l3 l4 (zup3 (zup3 F38 14 0 52 (F38 14 0 0)) 14 0 53 (F38 14 0 1)) B38)
set_option maxHeartbeats 4000000 in
set_option maxRecDepth 100000 in
theorem b_M_part_146 {D : va_G} {ca : Nat → ClassId} {ad : Nat → Int → Nat → Nat} {L : List Nat} {aS vS : Nat → Nat} {A : Nat → Prop} {p : Program} {l : Launch} {e : Env} {s : State} {m : MethodId} {args : Array Value} {below : List Frame} {meth : Method} {c : Code} {K : Nat} {r : Int} {F9 : zF} {B9 : zB} (X : zX D ca L aS vS A p s m args meth c prog_15_method_88_code 21 (Option.none : Option Jvm.ClassFile.FieldType) "StaveHouseModel") {l15 : Int} {l13 : Int} {l12 : Int} {l1 : Int} {l2 : Int} {l3 : Int} {l4 : Int} {l5 : Int} {l7 : Int} {F : zF} {B : zB} {H : Heap} {locs : List Loc} {ls : Array Slot} (hf : f_M_part_146 K l15 l13 l12 l1 l2 l3 l4 l5 l7 F B = some (r, F9, B9)) (hZ : zH D ca ad lnM nM L F B A H) (hS : va_S A s.heap H locs) (hl : lv_has ls 21 [(15, .long (lI l15)), (13, .long (lI l13)), (12, .int (iI l12)), (0, .ref (ad 14 0 0)), (1, .ref (ad 13 l1 0)), (2, .int (iI l2)), (3, .int (iI l3)), (4, .int (iI l4)), (5, .long (lI l5)), (7, .long (lI l7))]) : W p l e ({ frames := 6, cells := 0, slots := 0, locals := 190 } : Room) s m args below meth c H locs 0 0 (MQ below (Q_M_part D ca ad L r F9 B9 A) args s 0 0 A) (F0 m 146 ls []) := by
  obtain ⟨hx, hb, hr, hml, hown, hts, hlk, hK, hA, hL, hX⟩ := id X
  replace hf : (zbind (f_M_times K l5 l7 l15 l13 F B) (fun r38 F38 B38 => f_M_part_174 K K l15 l13 l12 l1 l2 l3 l4 (zup3 (zup3 F38 14 0 52 (F38 14 0 0)) 14 0 53 (F38 14 0 1)) B38)) = some (r, F9, B9) := hf
  refine lv_aload_n hx hb d_15_88_146 rfl (lv_at hl 3 rfl) ?_
  refine lv_lload hx hb d_15_88_147 (lv_at hl 8 rfl) ?_
  refine lv_lload hx hb d_15_88_149 (lv_at hl 9 rfl) ?_
  refine lv_lload hx hb d_15_88_151 (lv_at hl 0 rfl) ?_
  refine lv_lload hx hb d_15_88_153 (lv_at hl 1 rfl) ?_
  obtain ⟨r38, F38, B38, hc38, hf⟩ := gbind hf
  refine va_callv (va_runV (As := [.long (lI l5), .long (lI l7), .long (lI l15), .long (lI l13)]) (rest := []) ⟨hx, hb, hml, hown, hts⟩ (c_M_times (l := l) hc38) (cwV 4 hts (gdV k_13_155 k_13_157 ks_179 k_1_9 k_13_158) rfl rfl rfl (by decide +kernel) ⟨Nat.le_of_ble_eq_true rfl, Nat.le_of_ble_eq_true rfl⟩) (zPV X hZ hS (ci := 14) (by decide) (by decide) (r := (RX14, TX14, 107)) rfl [.long (lI l5), .long (lI l7), .long (lI l15), .long (lI l13)]) rfl rfl hl.1 rfl (lv_room (Nat.le_of_ble_eq_true rfl)) d_15_88_155 ⟨Nat.le_of_ble_eq_true rfl, Nat.le_of_ble_eq_true rfl⟩) hS (fun q _ h => zAin X hS q h) (zAin X hS) (fun u38 t38 H38 locs38 ht38 hv38 hw38 hB38 hz38 hk38 hS38 => ?_)
  have hZ38 := zBack X ht38 hB38
  refine lv_aload_n hx hb d_15_88_158 rfl (lv_at hl 3 rfl) ?_
  refine lv_aload_n hx hb d_15_88_159 rfl (lv_at hl 3 rfl) ?_
  refine zget (ci := 14) (C := RX14) (T := TX14) (v := .long (lI (F38 14 0 0))) (k := 0) hx hb hts inW_14 hown hK hZ38 (by decide) (by decide) rfl (by decide) k_10_238 rfl d_15_88_160 ?_
  refine zput (ci := 14) (C := RX14) (T := TX14) (k := 52) (v := (F38 14 0 0)) (w := .long (lI (F38 14 0 0))) hx hb hts inW_14 tyX14 tyX14_ok nmX14 hown hK hZ38 hS38 (by decide) (by decide) rfl (by decide) k_11_50 rfl (fun G h => congrArg (fun q => Value.long (lI q)) h) rfl rfl d_15_88_163 (fun H39 locs39 hZ39 hS39 => ?_)
  refine lv_aload_n hx hb d_15_88_166 rfl (lv_at hl 3 rfl) ?_
  refine lv_aload_n hx hb d_15_88_167 rfl (lv_at hl 3 rfl) ?_
  refine zget (ci := 14) (C := RX14) (T := TX14) (v := .long (lI (F38 14 0 1))) (k := 1) hx hb hts inW_14 hown hK hZ39 (by decide) (by decide) rfl (by decide) k_10_239 rfl d_15_88_168 ?_
  refine zput (ci := 14) (C := RX14) (T := TX14) (k := 53) (v := (F38 14 0 1)) (w := .long (lI (F38 14 0 1))) hx hb hts inW_14 tyX14 tyX14_ok nmX14 hown hK hZ39 hS39 (by decide) (by decide) rfl (by decide) k_11_51 rfl (fun G h => congrArg (fun q => Value.long (lI q)) h) rfl rfl d_15_88_171 (fun H40 locs40 hZ40 hS40 => ?_)
  exact b_M_part_174 X hf hZ40 hS40 (lv_sub hl [0, 1, 2, 3, 4, 5, 6, 7] rfl)

def f_M_part_87 (K : Nat) (l13 : Int) (l12 : Int) (l11 : Int) (l1 : Int) (l2 : Int) (l3 : Int) (l4 : Int) (l5 : Int) (l7 : Int) (l9 : Int) (s0 : Int) (F : zF) (B : zB) : zO := if r32 l11 then (if l11 = 0 then f_M_part_146 K s0 l13 l12 l1 l2 l3 l4 l5 l7 F B else if r32 l12 then (if l12 = 0 then if r32 l9 then (if l9 = 0 then f_M_part_146 K s0 l13 l12 l1 l2 l3 l4 l5 l7 F B else if r64 (F 14 0 54) then (if (zcmp (F 14 0 54) 0) = 0 then if 0 ≤ l1 ∧ l1 < 3 then if r32 (F 13 l1 4) then if r32 (F 13 l1 5) then zbind (f_M_compare K l5 l7 (F 13 l1 4) (F 13 l1 5) F B) (fun r34 F34 B34 => if r32 r34 then (if r34 = 0 then zbind (f_M_note_1 K l1 l2 l3 l4 9 0 F34 B34) (fun r37 F37 B37 => some (0, F37, B37)) else f_M_part_146 K s0 l13 l12 l1 l2 l3 l4 l5 l7 F34 B34) else none) else none else none else none else f_M_part_146 K s0 l13 l12 l1 l2 l3 l4 l5 l7 F B) else none) else none else f_M_part_146 K s0 l13 l12 l1 l2 l3 l4 l5 l7 F B) else none) else none
set_option maxHeartbeats 4000000 in
set_option maxRecDepth 100000 in
theorem b_M_part_87 {D : va_G} {ca : Nat → ClassId} {ad : Nat → Int → Nat → Nat} {L : List Nat} {aS vS : Nat → Nat} {A : Nat → Prop} {p : Program} {l : Launch} {e : Env} {s : State} {m : MethodId} {args : Array Value} {below : List Frame} {meth : Method} {c : Code} {K : Nat} {r : Int} {F9 : zF} {B9 : zB} (X : zX D ca L aS vS A p s m args meth c prog_15_method_88_code 21 (Option.none : Option Jvm.ClassFile.FieldType) "StaveHouseModel") {l13 : Int} {l12 : Int} {l11 : Int} {l1 : Int} {l2 : Int} {l3 : Int} {l4 : Int} {l5 : Int} {l7 : Int} {l9 : Int} {s0 : Int} {F : zF} {B : zB} {H : Heap} {locs : List Loc} {ls : Array Slot} (hf : f_M_part_87 K l13 l12 l11 l1 l2 l3 l4 l5 l7 l9 s0 F B = some (r, F9, B9)) (hZ : zH D ca ad lnM nM L F B A H) (hS : va_S A s.heap H locs) (hl : lv_has ls 21 [(13, .long (lI l13)), (12, .int (iI l12)), (11, .int (iI l11)), (0, .ref (ad 14 0 0)), (1, .ref (ad 13 l1 0)), (2, .int (iI l2)), (3, .int (iI l3)), (4, .int (iI l4)), (5, .long (lI l5)), (7, .long (lI l7)), (9, .int (iI l9))]) : W p l e ({ frames := 6, cells := 0, slots := 0, locals := 190 } : Room) s m args below meth c H locs 0 0 (MQ below (Q_M_part D ca ad L r F9 B9 A) args s 0 0 A) (F0 m 87 ls [.long (lI s0)]) := by
  obtain ⟨hx, hb, hr, hml, hown, hts, hlk, hK, hA, hL, hX⟩ := id X
  replace hf : (if r32 l11 then (if l11 = 0 then f_M_part_146 K s0 l13 l12 l1 l2 l3 l4 l5 l7 F B else if r32 l12 then (if l12 = 0 then if r32 l9 then (if l9 = 0 then f_M_part_146 K s0 l13 l12 l1 l2 l3 l4 l5 l7 F B else if r64 (F 14 0 54) then (if (zcmp (F 14 0 54) 0) = 0 then if 0 ≤ l1 ∧ l1 < 3 then if r32 (F 13 l1 4) then if r32 (F 13 l1 5) then zbind (f_M_compare K l5 l7 (F 13 l1 4) (F 13 l1 5) F B) (fun r34 F34 B34 => if r32 r34 then (if r34 = 0 then zbind (f_M_note_1 K l1 l2 l3 l4 9 0 F34 B34) (fun r37 F37 B37 => some (0, F37, B37)) else f_M_part_146 K s0 l13 l12 l1 l2 l3 l4 l5 l7 F34 B34) else none) else none else none else none else f_M_part_146 K s0 l13 l12 l1 l2 l3 l4 l5 l7 F B) else none) else none else f_M_part_146 K s0 l13 l12 l1 l2 l3 l4 l5 l7 F B) else none) else none) = some (r, F9, B9) := hf
  refine lv_lstore (lv' := [(15, .long (lI s0)), (13, .long (lI l13)), (12, .int (iI l12)), (11, .int (iI l11)), (0, .ref (ad 14 0 0)), (1, .ref (ad 13 l1 0)), (2, .int (iI l2)), (3, .int (iI l3)), (4, .int (iI l4)), (5, .long (lI l5)), (7, .long (lI l7)), (9, .int (iI l9))]) hx hb d_15_88_87 hl (by decide) rfl (fun ls hl => ?_)
  refine lv_iload hx hb d_15_88_89 (lv_at hl 3 rfl) ?_
  obtain ⟨g23, hf⟩ := gif hf
  refine z0eq (tgt := 146) hx hb g23 d_15_88_91 (by decide) (fun h24 => ?_) (fun h24 => ?_)
  · replace hf := gpos hf h24
    exact b_M_part_146 X hf hZ hS (lv_sub hl [0, 1, 2, 4, 5, 6, 7, 8, 9, 10] rfl)
  · replace hf := gneg hf h24
    refine lv_iload hx hb d_15_88_94 (lv_at hl 2 rfl) ?_
    obtain ⟨g25, hf⟩ := gif hf
    refine z0ne (tgt := 146) hx hb g25 d_15_88_96 (by decide) (fun h26 => ?_) (fun h26 => ?_)
    · replace hf := gneg hf h26
      exact b_M_part_146 X hf hZ hS (lv_sub hl [0, 1, 2, 4, 5, 6, 7, 8, 9, 10] rfl)
    · replace hf := gpos hf h26
      refine lv_iload hx hb d_15_88_99 (lv_at hl 11 rfl) ?_
      obtain ⟨g27, hf⟩ := gif hf
      refine z0eq (tgt := 146) hx hb g27 d_15_88_101 (by decide) (fun h28 => ?_) (fun h28 => ?_)
      · replace hf := gpos hf h28
        exact b_M_part_146 X hf hZ hS (lv_sub hl [0, 1, 2, 4, 5, 6, 7, 8, 9, 10] rfl)
      · replace hf := gneg hf h28
        refine lv_aload_n hx hb d_15_88_104 rfl (lv_at hl 4 rfl) ?_
        refine zget (ci := 14) (C := RX14) (T := TX14) (v := .long (lI (F 14 0 54))) (k := 54) hx hb hts inW_14 hown hK hZ (by decide) (by decide) rfl (by decide) k_11_52 rfl d_15_88_105 ?_
        refine lv_lconst (v := lI 0) hx hb d_15_88_108 (by decide) ?_
        obtain ⟨g29, hf⟩ := gif hf
        refine zcmp_r hx hb g29 (by decide) d_15_88_109 ?_
        refine z0ne (tgt := 146) hx hb zcmp_32 d_15_88_110 (by decide) (fun h30 => ?_) (fun h30 => ?_)
        · replace hf := gneg hf h30
          exact b_M_part_146 X hf hZ hS (lv_sub hl [0, 1, 2, 4, 5, 6, 7, 8, 9, 10] rfl)
        · replace hf := gpos hf h30
          refine lv_lload hx hb d_15_88_113 (lv_at hl 9 rfl) ?_
          refine lv_lload hx hb d_15_88_115 (lv_at hl 10 rfl) ?_
          refine lv_aload_n hx hb d_15_88_117 rfl (lv_at hl 5 rfl) ?_
          obtain ⟨g31, hf⟩ := gif hf
          refine zget (ci := 13) (C := RX13) (T := TX13) (v := .int (iI (F 13 l1 4))) (k := 4) hx hb hts inW_13 hown hK hZ g31.1 g31.2 rfl (by decide) k_9_129 rfl d_15_88_118 ?_
          obtain ⟨g32, hf⟩ := gif hf
          refine zi2l hx hb g32 d_15_88_121 ?_
          refine lv_aload_n hx hb d_15_88_122 rfl (lv_at hl 5 rfl) ?_
          refine zget (ci := 13) (C := RX13) (T := TX13) (v := .int (iI (F 13 l1 5))) (k := 5) hx hb hts inW_13 hown hK hZ g31.1 g31.2 rfl (by decide) k_9_130 rfl d_15_88_123 ?_
          obtain ⟨g33, hf⟩ := gif hf
          refine zi2l hx hb g33 d_15_88_126 ?_
          obtain ⟨r34, F34, B34, hc34, hf⟩ := gbind hf
          refine va_calli (va_runS (As := [.long (lI l5), .long (lI l7), .long (lI (F 13 l1 4)), .long (lI (F 13 l1 5))]) (rest := []) ⟨hx, hb, hml, hown, hts⟩ (c_M_compare (l := l) hc34) (va_cwS 4 hts (gdS k_13_104 k_13_105 k_1_9 k_13_106) rfl rfl rfl (by decide +kernel) ⟨Nat.le_of_ble_eq_true rfl, Nat.le_of_ble_eq_true rfl⟩) (zPS X hZ hS [.long (lI l5), .long (lI l7), .long (lI (F 13 l1 4)), .long (lI (F 13 l1 5))]) rfl rfl hl.1 rfl (lv_room (Nat.le_of_ble_eq_true rfl)) d_15_88_127 ⟨Nat.le_of_ble_eq_true rfl, Nat.le_of_ble_eq_true rfl⟩) hS (fun q _ h => zAin X hS q h) (zAin X hS) (fun p34 u34 t34 H34 locs34 ht34 hv34 hw34 hB34 hz34 hk34 hS34 => ?_)
          have hZ34 := zBack X ht34 hB34
          subst hw34
          obtain ⟨g35, hf⟩ := gif hf
          refine z0ne (tgt := 146) hx hb g35 d_15_88_130 (by decide) (fun h36 => ?_) (fun h36 => ?_)
          · replace hf := gneg hf h36
            exact b_M_part_146 X hf hZ34 hS34 (lv_sub hl [0, 1, 2, 4, 5, 6, 7, 8, 9, 10] rfl)
          · replace hf := gpos hf h36
            refine lv_aload_n hx hb d_15_88_133 rfl (lv_at hl 4 rfl) ?_
            refine lv_aload_n hx hb d_15_88_134 rfl (lv_at hl 5 rfl) ?_
            refine lv_iload_n hx hb d_15_88_135 rfl (lv_at hl 6 rfl) ?_
            refine lv_iload_n hx hb d_15_88_136 rfl (lv_at hl 7 rfl) ?_
            refine lv_iload hx hb d_15_88_137 (lv_at hl 8 rfl) ?_
            refine lv_bipush (v := iI 9) hx hb d_15_88_139 (by decide) ?_
            refine lv_iconst (v := iI 0) hx hb d_15_88_141 rfl ?_
            obtain ⟨r37, F37, B37, hc37, hf⟩ := gbind hf
            refine va_callv (va_runV (As := [.ref (ad 13 l1 0), .int (iI l2), .int (iI l3), .int (iI l4), .int (iI 9), .int (iI 0)]) (rest := []) ⟨hx, hb, hml, hown, hts⟩ (c_M_note_1 (l := l) hc37) (cwV 6 hts (gdV k_13_151 k_13_153 ks_178 k_1_9 k_13_154) rfl rfl rfl (by decide +kernel) ⟨Nat.le_of_ble_eq_true rfl, Nat.le_of_ble_eq_true rfl⟩) (zPV X hZ34 hS34 (ci := 14) (by decide) (by decide) (r := (RX14, TX14, 107)) rfl [.ref (ad 13 l1 0), .int (iI l2), .int (iI l3), .int (iI l4), .int (iI 9), .int (iI 0)]) rfl rfl hl.1 rfl (lv_room (Nat.le_of_ble_eq_true rfl)) d_15_88_142 ⟨Nat.le_of_ble_eq_true rfl, Nat.le_of_ble_eq_true rfl⟩) hS34 (fun q _ h => zAin X hS34 q h) (zAin X hS34) (fun u37 t37 H37 locs37 ht37 hv37 hw37 hB37 hz37 hk37 hS37 => ?_)
            have hZ37 := zBack X ht37 hB37
            cases hf
            exact W.vret hx hb hr (fun t ht hW => ⟨⟨(), rfl, trivial, by rw [ht]; exact hZ37, va_K.moved hW.alike hK⟩, hS37.F ht⟩) hS37.2.2 d_15_88_145 hlk

def f_M_part_68 (K : Nat) (l12 : Int) (l11 : Int) (l10 : Int) (l1 : Int) (l2 : Int) (l3 : Int) (l4 : Int) (l5 : Int) (l7 : Int) (l9 : Int) (s0 : Int) (F : zF) (B : zB) : zO := if r32 l12 then (if l12 = 0 then f_M_part_87 K s0 l12 l11 l1 l2 l3 l4 l5 l7 l9 1 F B else if 0 ≤ l1 ∧ l1 < 3 then if 0 ≤ l10 ∧ l10 < 4000 then if r32 (B 13 l1 24 l10) then f_M_part_87 K s0 l12 l11 l1 l2 l3 l4 l5 l7 l9 (B 13 l1 24 l10) F B else none else none else none) else none
set_option maxHeartbeats 4000000 in
set_option maxRecDepth 100000 in
theorem b_M_part_68 {D : va_G} {ca : Nat → ClassId} {ad : Nat → Int → Nat → Nat} {L : List Nat} {aS vS : Nat → Nat} {A : Nat → Prop} {p : Program} {l : Launch} {e : Env} {s : State} {m : MethodId} {args : Array Value} {below : List Frame} {meth : Method} {c : Code} {K : Nat} {r : Int} {F9 : zF} {B9 : zB} (X : zX D ca L aS vS A p s m args meth c prog_15_method_88_code 21 (Option.none : Option Jvm.ClassFile.FieldType) "StaveHouseModel") {l12 : Int} {l11 : Int} {l10 : Int} {l1 : Int} {l2 : Int} {l3 : Int} {l4 : Int} {l5 : Int} {l7 : Int} {l9 : Int} {s0 : Int} {F : zF} {B : zB} {H : Heap} {locs : List Loc} {ls : Array Slot} (hf : f_M_part_68 K l12 l11 l10 l1 l2 l3 l4 l5 l7 l9 s0 F B = some (r, F9, B9)) (hZ : zH D ca ad lnM nM L F B A H) (hS : va_S A s.heap H locs) (hl : lv_has ls 21 [(12, .int (iI l12)), (11, .int (iI l11)), (10, .int (iI l10)), (0, .ref (ad 14 0 0)), (1, .ref (ad 13 l1 0)), (2, .int (iI l2)), (3, .int (iI l3)), (4, .int (iI l4)), (5, .long (lI l5)), (7, .long (lI l7)), (9, .int (iI l9))]) : W p l e ({ frames := 6, cells := 0, slots := 0, locals := 190 } : Room) s m args below meth c H locs 0 0 (MQ below (Q_M_part D ca ad L r F9 B9 A) args s 0 0 A) (F0 m 68 ls [.long (lI s0)]) := by
  obtain ⟨hx, hb, hr, hml, hown, hts, hlk, hK, hA, hL, hX⟩ := id X
  replace hf : (if r32 l12 then (if l12 = 0 then f_M_part_87 K s0 l12 l11 l1 l2 l3 l4 l5 l7 l9 1 F B else if 0 ≤ l1 ∧ l1 < 3 then if 0 ≤ l10 ∧ l10 < 4000 then if r32 (B 13 l1 24 l10) then f_M_part_87 K s0 l12 l11 l1 l2 l3 l4 l5 l7 l9 (B 13 l1 24 l10) F B else none else none else none) else none) = some (r, F9, B9) := hf
  refine lv_lstore (lv' := [(13, .long (lI s0)), (12, .int (iI l12)), (11, .int (iI l11)), (10, .int (iI l10)), (0, .ref (ad 14 0 0)), (1, .ref (ad 13 l1 0)), (2, .int (iI l2)), (3, .int (iI l3)), (4, .int (iI l4)), (5, .long (lI l5)), (7, .long (lI l7)), (9, .int (iI l9))]) hx hb d_15_88_68 hl (by decide) rfl (fun ls hl => ?_)
  refine lv_iload hx hb d_15_88_70 (lv_at hl 1 rfl) ?_
  obtain ⟨g18, hf⟩ := gif hf
  refine z0eq (tgt := 86) hx hb g18 d_15_88_72 (by decide) (fun h19 => ?_) (fun h19 => ?_)
  · replace hf := gpos hf h19
    refine lv_lconst (v := lI 1) hx hb d_15_88_86 (by decide) ?_
    exact b_M_part_87 X hf hZ hS (lv_sub hl [0, 1, 2, 4, 5, 6, 7, 8, 9, 10, 11] rfl)
  · replace hf := gneg hf h19
    refine lv_aload_n hx hb d_15_88_75 rfl (lv_at hl 5 rfl) ?_
    obtain ⟨g20, hf⟩ := gif hf
    refine zget (ci := 13) (C := RX13) (T := TX13) (v := .ref (ad 13 l1 (24 + 1))) (k := 24) hx hb hts inW_13 hown hK hZ g20.1 g20.2 rfl (by decide) k_9_166 rfl d_15_88_76 ?_
    refine lv_iload hx hb d_15_88_79 (lv_at hl 3 rfl) ?_
    obtain ⟨g21, hf⟩ := gif hf
    refine zald (ci := 13) (k := 24) hx hb hK rfl hZ g20.1 g20.2 rfl (Nat.le_of_ble_eq_true rfl) g21.1 g21.2 d_15_88_81 ?_
    obtain ⟨g22, hf⟩ := gif hf
    refine zi2l hx hb g22 d_15_88_82 ?_
    refine lv_goto (tgt := 87) hx hb d_15_88_83 (by decide) ?_
    exact b_M_part_87 X hf hZ hS (lv_sub hl [0, 1, 2, 4, 5, 6, 7, 8, 9, 10, 11] rfl)

def f_M_part_49 (K : Nat) (l11 : Int) (l10 : Int) (l1 : Int) (l2 : Int) (l3 : Int) (l4 : Int) (l5 : Int) (l7 : Int) (l9 : Int) (s0 : Int) (F : zF) (B : zB) : zO := if r32 s0 then (if s0 = 0 then f_M_part_68 K s0 l11 l10 l1 l2 l3 l4 l5 l7 l9 1 F B else if 0 ≤ l1 ∧ l1 < 3 then if 0 ≤ l10 ∧ l10 < 4000 then if r32 (B 13 l1 23 l10) then f_M_part_68 K s0 l11 l10 l1 l2 l3 l4 l5 l7 l9 (B 13 l1 23 l10) F B else none else none else none) else none
set_option maxHeartbeats 4000000 in
set_option maxRecDepth 100000 in
theorem b_M_part_49 {D : va_G} {ca : Nat → ClassId} {ad : Nat → Int → Nat → Nat} {L : List Nat} {aS vS : Nat → Nat} {A : Nat → Prop} {p : Program} {l : Launch} {e : Env} {s : State} {m : MethodId} {args : Array Value} {below : List Frame} {meth : Method} {c : Code} {K : Nat} {r : Int} {F9 : zF} {B9 : zB} (X : zX D ca L aS vS A p s m args meth c prog_15_method_88_code 21 (Option.none : Option Jvm.ClassFile.FieldType) "StaveHouseModel") {l11 : Int} {l10 : Int} {l1 : Int} {l2 : Int} {l3 : Int} {l4 : Int} {l5 : Int} {l7 : Int} {l9 : Int} {s0 : Int} {F : zF} {B : zB} {H : Heap} {locs : List Loc} {ls : Array Slot} (hf : f_M_part_49 K l11 l10 l1 l2 l3 l4 l5 l7 l9 s0 F B = some (r, F9, B9)) (hZ : zH D ca ad lnM nM L F B A H) (hS : va_S A s.heap H locs) (hl : lv_has ls 21 [(11, .int (iI l11)), (10, .int (iI l10)), (0, .ref (ad 14 0 0)), (1, .ref (ad 13 l1 0)), (2, .int (iI l2)), (3, .int (iI l3)), (4, .int (iI l4)), (5, .long (lI l5)), (7, .long (lI l7)), (9, .int (iI l9))]) : W p l e ({ frames := 6, cells := 0, slots := 0, locals := 190 } : Room) s m args below meth c H locs 0 0 (MQ below (Q_M_part D ca ad L r F9 B9 A) args s 0 0 A) (F0 m 49 ls [.int (iI s0)]) := by
  obtain ⟨hx, hb, hr, hml, hown, hts, hlk, hK, hA, hL, hX⟩ := id X
  replace hf : (if r32 s0 then (if s0 = 0 then f_M_part_68 K s0 l11 l10 l1 l2 l3 l4 l5 l7 l9 1 F B else if 0 ≤ l1 ∧ l1 < 3 then if 0 ≤ l10 ∧ l10 < 4000 then if r32 (B 13 l1 23 l10) then f_M_part_68 K s0 l11 l10 l1 l2 l3 l4 l5 l7 l9 (B 13 l1 23 l10) F B else none else none else none) else none) = some (r, F9, B9) := hf
  refine lv_istore (lv' := [(12, .int (iI s0)), (11, .int (iI l11)), (10, .int (iI l10)), (0, .ref (ad 14 0 0)), (1, .ref (ad 13 l1 0)), (2, .int (iI l2)), (3, .int (iI l3)), (4, .int (iI l4)), (5, .long (lI l5)), (7, .long (lI l7)), (9, .int (iI l9))]) hx hb d_15_88_49 hl (by decide) rfl (fun ls hl => ?_)
  refine lv_iload hx hb d_15_88_51 (lv_at hl 0 rfl) ?_
  obtain ⟨g13, hf⟩ := gif hf
  refine z0eq (tgt := 67) hx hb g13 d_15_88_53 (by decide) (fun h14 => ?_) (fun h14 => ?_)
  · replace hf := gpos hf h14
    refine lv_lconst (v := lI 1) hx hb d_15_88_67 (by decide) ?_
    exact b_M_part_68 X hf hZ hS (lv_sub hl [0, 1, 2, 3, 4, 5, 6, 7, 8, 9, 10] rfl)
  · replace hf := gneg hf h14
    refine lv_aload_n hx hb d_15_88_56 rfl (lv_at hl 4 rfl) ?_
    obtain ⟨g15, hf⟩ := gif hf
    refine zget (ci := 13) (C := RX13) (T := TX13) (v := .ref (ad 13 l1 (23 + 1))) (k := 23) hx hb hts inW_13 hown hK hZ g15.1 g15.2 rfl (by decide) k_9_164 rfl d_15_88_57 ?_
    refine lv_iload hx hb d_15_88_60 (lv_at hl 2 rfl) ?_
    obtain ⟨g16, hf⟩ := gif hf
    refine zald (ci := 13) (k := 23) hx hb hK rfl hZ g15.1 g15.2 rfl (Nat.le_of_ble_eq_true rfl) g16.1 g16.2 d_15_88_62 ?_
    obtain ⟨g17, hf⟩ := gif hf
    refine zi2l hx hb g17 d_15_88_63 ?_
    refine lv_goto (tgt := 68) hx hb d_15_88_64 (by decide) ?_
    exact b_M_part_68 X hf hZ hS (lv_sub hl [0, 1, 2, 3, 4, 5, 6, 7, 8, 9, 10] rfl)

def f_M_part_48 (K : Nat) (l11 : Int) (l10 : Int) (l1 : Int) (l2 : Int) (l3 : Int) (l4 : Int) (l5 : Int) (l7 : Int) (l9 : Int) (F : zF) (B : zB) : zO := f_M_part_49 K l11 l10 l1 l2 l3 l4 l5 l7 l9 0 F B
set_option maxHeartbeats 4000000 in
set_option maxRecDepth 100000 in
theorem b_M_part_48 {D : va_G} {ca : Nat → ClassId} {ad : Nat → Int → Nat → Nat} {L : List Nat} {aS vS : Nat → Nat} {A : Nat → Prop} {p : Program} {l : Launch} {e : Env} {s : State} {m : MethodId} {args : Array Value} {below : List Frame} {meth : Method} {c : Code} {K : Nat} {r : Int} {F9 : zF} {B9 : zB} (X : zX D ca L aS vS A p s m args meth c prog_15_method_88_code 21 (Option.none : Option Jvm.ClassFile.FieldType) "StaveHouseModel") {l11 : Int} {l10 : Int} {l1 : Int} {l2 : Int} {l3 : Int} {l4 : Int} {l5 : Int} {l7 : Int} {l9 : Int} {F : zF} {B : zB} {H : Heap} {locs : List Loc} {ls : Array Slot} (hf : f_M_part_48 K l11 l10 l1 l2 l3 l4 l5 l7 l9 F B = some (r, F9, B9)) (hZ : zH D ca ad lnM nM L F B A H) (hS : va_S A s.heap H locs) (hl : lv_has ls 21 [(11, .int (iI l11)), (10, .int (iI l10)), (0, .ref (ad 14 0 0)), (1, .ref (ad 13 l1 0)), (2, .int (iI l2)), (3, .int (iI l3)), (4, .int (iI l4)), (5, .long (lI l5)), (7, .long (lI l7)), (9, .int (iI l9))]) : W p l e ({ frames := 6, cells := 0, slots := 0, locals := 190 } : Room) s m args below meth c H locs 0 0 (MQ below (Q_M_part D ca ad L r F9 B9 A) args s 0 0 A) (F0 m 48 ls []) := by
  obtain ⟨hx, hb, hr, hml, hown, hts, hlk, hK, hA, hL, hX⟩ := id X
  replace hf : (f_M_part_49 K l11 l10 l1 l2 l3 l4 l5 l7 l9 0 F B) = some (r, F9, B9) := hf
  refine lv_iconst (v := iI 0) hx hb d_15_88_48 rfl ?_
  exact b_M_part_49 X hf hZ hS (lv_sub hl [0, 1, 2, 3, 4, 5, 6, 7, 8, 9] rfl)

def f_M_part_28 (K : Nat) (l10 : Int) (l1 : Int) (l2 : Int) (l3 : Int) (l4 : Int) (l5 : Int) (l7 : Int) (l9 : Int) (s0 : Int) (F : zF) (B : zB) : zO := if r32 l3 then (if l3 < 0 then f_M_part_48 K s0 l10 l1 l2 l3 l4 l5 l7 l9 F B else if 0 ≤ l1 ∧ l1 < 3 then if 0 ≤ l10 ∧ l10 < 4000 then if r32 (B 13 l1 22 l10) then (if (B 13 l1 22 l10) ≤ 0 then f_M_part_48 K s0 l10 l1 l2 l3 l4 l5 l7 l9 F B else f_M_part_49 K s0 l10 l1 l2 l3 l4 l5 l7 l9 1 F B) else none else none else none) else none
set_option maxHeartbeats 4000000 in
set_option maxRecDepth 100000 in
theorem b_M_part_28 {D : va_G} {ca : Nat → ClassId} {ad : Nat → Int → Nat → Nat} {L : List Nat} {aS vS : Nat → Nat} {A : Nat → Prop} {p : Program} {l : Launch} {e : Env} {s : State} {m : MethodId} {args : Array Value} {below : List Frame} {meth : Method} {c : Code} {K : Nat} {r : Int} {F9 : zF} {B9 : zB} (X : zX D ca L aS vS A p s m args meth c prog_15_method_88_code 21 (Option.none : Option Jvm.ClassFile.FieldType) "StaveHouseModel") {l10 : Int} {l1 : Int} {l2 : Int} {l3 : Int} {l4 : Int} {l5 : Int} {l7 : Int} {l9 : Int} {s0 : Int} {F : zF} {B : zB} {H : Heap} {locs : List Loc} {ls : Array Slot} (hf : f_M_part_28 K l10 l1 l2 l3 l4 l5 l7 l9 s0 F B = some (r, F9, B9)) (hZ : zH D ca ad lnM nM L F B A H) (hS : va_S A s.heap H locs) (hl : lv_has ls 21 [(10, .int (iI l10)), (0, .ref (ad 14 0 0)), (1, .ref (ad 13 l1 0)), (2, .int (iI l2)), (3, .int (iI l3)), (4, .int (iI l4)), (5, .long (lI l5)), (7, .long (lI l7)), (9, .int (iI l9))]) : W p l e ({ frames := 6, cells := 0, slots := 0, locals := 190 } : Room) s m args below meth c H locs 0 0 (MQ below (Q_M_part D ca ad L r F9 B9 A) args s 0 0 A) (F0 m 28 ls [.int (iI s0)]) := by
  obtain ⟨hx, hb, hr, hml, hown, hts, hlk, hK, hA, hL, hX⟩ := id X
  replace hf : (if r32 l3 then (if l3 < 0 then f_M_part_48 K s0 l10 l1 l2 l3 l4 l5 l7 l9 F B else if 0 ≤ l1 ∧ l1 < 3 then if 0 ≤ l10 ∧ l10 < 4000 then if r32 (B 13 l1 22 l10) then (if (B 13 l1 22 l10) ≤ 0 then f_M_part_48 K s0 l10 l1 l2 l3 l4 l5 l7 l9 F B else f_M_part_49 K s0 l10 l1 l2 l3 l4 l5 l7 l9 1 F B) else none else none else none) else none) = some (r, F9, B9) := hf
  refine lv_istore (lv' := [(11, .int (iI s0)), (10, .int (iI l10)), (0, .ref (ad 14 0 0)), (1, .ref (ad 13 l1 0)), (2, .int (iI l2)), (3, .int (iI l3)), (4, .int (iI l4)), (5, .long (lI l5)), (7, .long (lI l7)), (9, .int (iI l9))]) hx hb d_15_88_28 hl (by decide) rfl (fun ls hl => ?_)
  refine lv_iload_n hx hb d_15_88_30 rfl (lv_at hl 5 rfl) ?_
  obtain ⟨g7, hf⟩ := gif hf
  refine z0lt (tgt := 48) hx hb g7 d_15_88_31 (by decide) (fun h8 => ?_) (fun h8 => ?_)
  · replace hf := gpos hf h8
    exact b_M_part_48 X hf hZ hS (lv_sub hl [0, 1, 2, 3, 4, 5, 6, 7, 8, 9] rfl)
  · replace hf := gneg hf h8
    refine lv_aload_n hx hb d_15_88_34 rfl (lv_at hl 3 rfl) ?_
    obtain ⟨g9, hf⟩ := gif hf
    refine zget (ci := 13) (C := RX13) (T := TX13) (v := .ref (ad 13 l1 (22 + 1))) (k := 22) hx hb hts inW_13 hown hK hZ g9.1 g9.2 rfl (by decide) k_9_162 rfl d_15_88_35 ?_
    refine lv_iload hx hb d_15_88_38 (lv_at hl 1 rfl) ?_
    obtain ⟨g10, hf⟩ := gif hf
    refine zald (ci := 13) (k := 22) hx hb hK rfl hZ g9.1 g9.2 rfl (Nat.le_of_ble_eq_true rfl) g10.1 g10.2 d_15_88_40 ?_
    obtain ⟨g11, hf⟩ := gif hf
    refine z0le (tgt := 48) hx hb g11 d_15_88_41 (by decide) (fun h12 => ?_) (fun h12 => ?_)
    · replace hf := gpos hf h12
      exact b_M_part_48 X hf hZ hS (lv_sub hl [0, 1, 2, 3, 4, 5, 6, 7, 8, 9] rfl)
    · replace hf := gneg hf h12
      refine lv_iconst (v := iI 1) hx hb d_15_88_44 rfl ?_
      refine lv_goto (tgt := 49) hx hb d_15_88_45 (by decide) ?_
      exact b_M_part_49 X hf hZ hS (lv_sub hl [0, 1, 2, 3, 4, 5, 6, 7, 8, 9] rfl)

def f_M_part_23 (K : Nat) (l10 : Int) (l1 : Int) (l2 : Int) (l3 : Int) (l4 : Int) (l5 : Int) (l7 : Int) (l9 : Int) (F : zF) (B : zB) : zO := f_M_part_28 K l10 l1 l2 l3 l4 l5 l7 l9 1 F B
set_option maxHeartbeats 4000000 in
set_option maxRecDepth 100000 in
theorem b_M_part_23 {D : va_G} {ca : Nat → ClassId} {ad : Nat → Int → Nat → Nat} {L : List Nat} {aS vS : Nat → Nat} {A : Nat → Prop} {p : Program} {l : Launch} {e : Env} {s : State} {m : MethodId} {args : Array Value} {below : List Frame} {meth : Method} {c : Code} {K : Nat} {r : Int} {F9 : zF} {B9 : zB} (X : zX D ca L aS vS A p s m args meth c prog_15_method_88_code 21 (Option.none : Option Jvm.ClassFile.FieldType) "StaveHouseModel") {l10 : Int} {l1 : Int} {l2 : Int} {l3 : Int} {l4 : Int} {l5 : Int} {l7 : Int} {l9 : Int} {F : zF} {B : zB} {H : Heap} {locs : List Loc} {ls : Array Slot} (hf : f_M_part_23 K l10 l1 l2 l3 l4 l5 l7 l9 F B = some (r, F9, B9)) (hZ : zH D ca ad lnM nM L F B A H) (hS : va_S A s.heap H locs) (hl : lv_has ls 21 [(10, .int (iI l10)), (0, .ref (ad 14 0 0)), (1, .ref (ad 13 l1 0)), (2, .int (iI l2)), (3, .int (iI l3)), (4, .int (iI l4)), (5, .long (lI l5)), (7, .long (lI l7)), (9, .int (iI l9))]) : W p l e ({ frames := 6, cells := 0, slots := 0, locals := 190 } : Room) s m args below meth c H locs 0 0 (MQ below (Q_M_part D ca ad L r F9 B9 A) args s 0 0 A) (F0 m 23 ls []) := by
  obtain ⟨hx, hb, hr, hml, hown, hts, hlk, hK, hA, hL, hX⟩ := id X
  replace hf : (f_M_part_28 K l10 l1 l2 l3 l4 l5 l7 l9 1 F B) = some (r, F9, B9) := hf
  refine lv_iconst (v := iI 1) hx hb d_15_88_23 rfl ?_
  refine lv_goto (tgt := 28) hx hb d_15_88_24 (by decide) ?_
  exact b_M_part_28 X hf hZ hS (lv_sub hl [0, 1, 2, 3, 4, 5, 6, 7, 8] rfl)

def f_M_part (K : Nat) (l1 : Int) (l2 : Int) (l3 : Int) (l4 : Int) (l5 : Int) (l7 : Int) (l9 : Int) (F : zF) (B : zB) : zO := if r32 l3 then (if l3 < 0 then f_M_part_23 K ((1000 * l2) + l3) l1 l2 l3 l4 l5 l7 l9 F B else if 0 ≤ l1 ∧ l1 < 3 then if 0 ≤ ((1000 * l2) + l3) ∧ ((1000 * l2) + l3) < 4000 then if r32 (B 13 l1 21 ((1000 * l2) + l3)) then (if (B 13 l1 21 ((1000 * l2) + l3)) = 0 then f_M_part_23 K ((1000 * l2) + l3) l1 l2 l3 l4 l5 l7 l9 F B else f_M_part_28 K ((1000 * l2) + l3) l1 l2 l3 l4 l5 l7 l9 0 F B) else none else none else none) else none
set_option maxHeartbeats 4000000 in
set_option maxRecDepth 100000 in
theorem c_M_part {l : Launch} {D : va_G} {ca : Nat → ClassId} {ad : Nat → Int → Nat → Nat} {L : List Nat} {aS vS : Nat → Nat} {sz K : Nat} {l1 : Int} {l2 : Int} {l3 : Int} {l4 : Int} {l5 : Int} {l7 : Int} {l9 : Int} {F F9 : zF} {B B9 : zB} {r : Int} (hf : f_M_part K l1 l2 l3 l4 l5 l7 l9 F B = some (r, F9, B9)) : Met l ({ cls := "StaveHouseModel", name := "part", desc := "(LStaveHouseModel$Piece;IIIJJZ)V" } : Jvm.MethodName) (Cond.code ({ cls := "StaveHouseModel", name := "part", desc := "(LStaveHouseModel$Piece;IIIJJZ)V" } : Jvm.MethodName) prog_15_method_88_code 21 (Option.none : Option Jvm.ClassFile.FieldType) :: wAll) ({ frames := 6, cells := 0, slots := 0, locals := 190 } : Room) (va_Pc [.ref (ad 14 0 0), .ref (ad 13 l1 0), .int (iI l2), .int (iI l3), .int (iI l4), .long (lI l5), .long (lI l7), .int (iI l9)] (zPre D ca ad lnM nM L aS vS F B sz)) (Q_M_part D ca ad L r F9 B9 (zA L sz)) 0 0 (zA L sz) := by
  refine zMet (Qc := Q_M_part D ca ad L r F9 B9) (lv := [(0, .ref (ad 14 0 0)), (1, .ref (ad 13 l1 0)), (2, .int (iI l2)), (3, .int (iI l3)), (4, .int (iI l4)), (5, .long (lI l5)), (7, .long (lI l7)), (9, .int (iI l9))]) (by decide) (Nat.le_of_ble_eq_true rfl) rfl (fun A p e s m below meth c ls X hZ hS hl => ?_)
  obtain ⟨hx, hb, hr, hml, hown, hts, hlk, hK, hA, hL, hX⟩ := id X
  replace hf : (if r32 l3 then (if l3 < 0 then f_M_part_23 K ((1000 * l2) + l3) l1 l2 l3 l4 l5 l7 l9 F B else if 0 ≤ l1 ∧ l1 < 3 then if 0 ≤ ((1000 * l2) + l3) ∧ ((1000 * l2) + l3) < 4000 then if r32 (B 13 l1 21 ((1000 * l2) + l3)) then (if (B 13 l1 21 ((1000 * l2) + l3)) = 0 then f_M_part_23 K ((1000 * l2) + l3) l1 l2 l3 l4 l5 l7 l9 F B else f_M_part_28 K ((1000 * l2) + l3) l1 l2 l3 l4 l5 l7 l9 0 F B) else none else none else none) else none) = some (r, F9, B9) := hf
  refine lv_sipush (v := iI 1000) hx hb d_15_88_0 (by decide) ?_
  refine lv_iload_n hx hb d_15_88_3 rfl (lv_at hl 2 rfl) ?_
  refine zmul hx hb d_15_88_4 ?_
  refine lv_iload_n hx hb d_15_88_5 rfl (lv_at hl 3 rfl) ?_
  refine zadd hx hb d_15_88_6 ?_
  refine lv_istore (lv' := [(10, .int (iI ((1000 * l2) + l3))), (0, .ref (ad 14 0 0)), (1, .ref (ad 13 l1 0)), (2, .int (iI l2)), (3, .int (iI l3)), (4, .int (iI l4)), (5, .long (lI l5)), (7, .long (lI l7)), (9, .int (iI l9))]) hx hb d_15_88_7 hl (by decide) rfl (fun ls hl => ?_)
  refine lv_iload_n hx hb d_15_88_9 rfl (lv_at hl 4 rfl) ?_
  obtain ⟨g1, hf⟩ := gif hf
  refine z0lt (tgt := 23) hx hb g1 d_15_88_10 (by decide) (fun h2 => ?_) (fun h2 => ?_)
  · replace hf := gpos hf h2
    exact b_M_part_23 X hf hZ hS (lv_sub hl [0, 1, 2, 3, 4, 5, 6, 7, 8] rfl)
  · replace hf := gneg hf h2
    refine lv_aload_n hx hb d_15_88_13 rfl (lv_at hl 2 rfl) ?_
    obtain ⟨g3, hf⟩ := gif hf
    refine zget (ci := 13) (C := RX13) (T := TX13) (v := .ref (ad 13 l1 (21 + 1))) (k := 21) hx hb hts inW_13 hown hK hZ g3.1 g3.2 rfl (by decide) k_9_160 rfl d_15_88_14 ?_
    refine lv_iload hx hb d_15_88_17 (lv_at hl 0 rfl) ?_
    obtain ⟨g4, hf⟩ := gif hf
    refine zald (ci := 13) (k := 21) hx hb hK rfl hZ g3.1 g3.2 rfl (Nat.le_of_ble_eq_true rfl) g4.1 g4.2 d_15_88_19 ?_
    obtain ⟨g5, hf⟩ := gif hf
    refine z0ne (tgt := 27) hx hb g5 d_15_88_20 (by decide) (fun h6 => ?_) (fun h6 => ?_)
    · replace hf := gneg hf h6
      refine lv_iconst (v := iI 0) hx hb d_15_88_27 rfl ?_
      exact b_M_part_28 X hf hZ hS (lv_sub hl [0, 1, 2, 3, 4, 5, 6, 7, 8] rfl)
    · replace hf := gpos hf h6
      exact b_M_part_23 X hf hZ hS (lv_sub hl [0, 1, 2, 3, 4, 5, 6, 7, 8] rfl)

abbrev Q_M_pieces (D : va_G) (ca : Nat → ClassId) (ad : Nat → Int → Nat → Nat) (L : List Nat) (r : Int) (F : zF) (B : zB) (A : Nat → Prop) : Array Value → State → Outcome → State → Prop := va_Qv (S := Unit) (fun _ => True) (fun _ => zPo D ca ad lnM nM L F B A) A
def f_M_pieces_215 (K : Nat)  (F : zF) (B : zB) : zO := some (0, F, B)
set_option maxHeartbeats 4000000 in
set_option maxRecDepth 100000 in
theorem b_M_pieces_215 {D : va_G} {ca : Nat → ClassId} {ad : Nat → Int → Nat → Nat} {L : List Nat} {aS vS : Nat → Nat} {A : Nat → Prop} {p : Program} {l : Launch} {e : Env} {s : State} {m : MethodId} {args : Array Value} {below : List Frame} {meth : Method} {c : Code} {K : Nat} {r : Int} {F9 : zF} {B9 : zB} (X : zX D ca L aS vS A p s m args meth c prog_15_method_87_code 27 (Option.none : Option Jvm.ClassFile.FieldType) "StaveHouseModel")  {F : zF} {B : zB} {H : Heap} {locs : List Loc} {ls : Array Slot} (hf : f_M_pieces_215 K  F B = some (r, F9, B9)) (hZ : zH D ca ad lnM nM L F B A H) (hS : va_S A s.heap H locs) (hl : lv_has ls 27 []) : W p l e ({ frames := 7, cells := 0, slots := 0, locals := 230 } : Room) s m args below meth c H locs 0 0 (MQ below (Q_M_pieces D ca ad L r F9 B9 A) args s 0 0 A) (F0 m 215 ls []) := by
  obtain ⟨hx, hb, hr, hml, hown, hts, hlk, hK, hA, hL, hX⟩ := id X
  replace hf : (some (0, F, B)) = some (r, F9, B9) := hf
  cases hf
  exact W.vret hx hb hr (fun t ht hW => ⟨⟨(), rfl, trivial, by rw [ht]; exact hZ, va_K.moved hW.alike hK⟩, hS.F ht⟩) hS.2.2 d_15_87_215 hlk

def f_M_pieces_111 (rec16 : Int → Int → Int → Int → Int → Int → Int → Int → zF → zB → zO) (K : Nat) (l25 : Int) (l23 : Int) (l21 : Int) (l19 : Int) (l17 : Int) (l15 : Int) (l13 : Int) (l1 : Int) (l2 : Int) (l3 : Int) (l12 : Int) (F : zF) (B : zB) : zO := if 0 ≤ l1 ∧ l1 < 3 then if r32 (F 13 l1 4) then if r32 (F 13 l1 5) then zbind (f_M_minus K l13 l15 (l21 * (F 13 l1 4)) (F 13 l1 5) F B) (fun r19 F19 B19 => if r32 l21 then zbind (f_M_part K l1 l2 l3 l21 l23 l25 l12 (zup3 (zup3 F19 14 0 54 (F19 14 0 0)) 14 0 55 (F19 14 0 1)) B19) (fun r23 F23 B23 => zbind (f_M_plus K l13 l15 l23 l25 F23 B23) (fun r24 F24 B24 => zbind (f_M_minus K l17 l19 l23 l25 F24 B24) (fun r25 F25 B25 => rec16 (F25 14 0 1) (F25 14 0 0) (F24 14 0 1) (F24 14 0 0) l1 l2 l3 l12 F25 B25))) else none) else none else none else none
set_option maxHeartbeats 4000000 in
set_option maxRecDepth 100000 in
theorem b_M_pieces_111 {D : va_G} {ca : Nat → ClassId} {ad : Nat → Int → Nat → Nat} {L : List Nat} {aS vS : Nat → Nat} {A : Nat → Prop} {p : Program} {l : Launch} {e : Env} {s : State} {m : MethodId} {args : Array Value} {below : List Frame} {meth : Method} {c : Code} {K : Nat} {r : Int} {F9 : zF} {B9 : zB} (X : zX D ca L aS vS A p s m args meth c prog_15_method_87_code 27 (Option.none : Option Jvm.ClassFile.FieldType) "StaveHouseModel") {rec16 : Int → Int → Int → Int → Int → Int → Int → Int → zF → zB → zO} (hrec16 : ∀ {l19 : Int} {l17 : Int} {l15 : Int} {l13 : Int} {l1 : Int} {l2 : Int} {l3 : Int} {l12 : Int} {F : zF} {B : zB} {H : Heap} {locs : List Loc} {ls : Array Slot}, rec16 l19 l17 l15 l13 l1 l2 l3 l12 F B = some (r, F9, B9) → zH D ca ad lnM nM L F B A H → va_S A s.heap H locs → lv_has ls 27 [(19, .long (lI l19)), (17, .long (lI l17)), (15, .long (lI l15)), (13, .long (lI l13)), (0, .ref (ad 14 0 0)), (1, .ref (ad 13 l1 0)), (2, .int (iI l2)), (3, .int (iI l3)), (12, .int (iI l12))] → W p l e ({ frames := 7, cells := 0, slots := 0, locals := 230 } : Room) s m args below meth c H locs 0 0 (MQ below (Q_M_pieces D ca ad L r F9 B9 A) args s 0 0 A) (F0 m 16 ls [])) {l25 : Int} {l23 : Int} {l21 : Int} {l19 : Int} {l17 : Int} {l15 : Int} {l13 : Int} {l1 : Int} {l2 : Int} {l3 : Int} {l12 : Int} {F : zF} {B : zB} {H : Heap} {locs : List Loc} {ls : Array Slot} (hf : f_M_pieces_111 rec16 K l25 l23 l21 l19 l17 l15 l13 l1 l2 l3 l12 F B = some (r, F9, B9)) (hZ : zH D ca ad lnM nM L F B A H) (hS : va_S A s.heap H locs) (hl : lv_has ls 27 [(25, .long (lI l25)), (23, .long (lI l23)), (21, .long (lI l21)), (19, .long (lI l19)), (17, .long (lI l17)), (15, .long (lI l15)), (13, .long (lI l13)), (0, .ref (ad 14 0 0)), (1, .ref (ad 13 l1 0)), (2, .int (iI l2)), (3, .int (iI l3)), (12, .int (iI l12))]) : W p l e ({ frames := 7, cells := 0, slots := 0, locals := 230 } : Room) s m args below meth c H locs 0 0 (MQ below (Q_M_pieces D ca ad L r F9 B9 A) args s 0 0 A) (F0 m 111 ls []) := by
  obtain ⟨hx, hb, hr, hml, hown, hts, hlk, hK, hA, hL, hX⟩ := id X
  replace hf : (if 0 ≤ l1 ∧ l1 < 3 then if r32 (F 13 l1 4) then if r32 (F 13 l1 5) then zbind (f_M_minus K l13 l15 (l21 * (F 13 l1 4)) (F 13 l1 5) F B) (fun r19 F19 B19 => if r32 l21 then zbind (f_M_part K l1 l2 l3 l21 l23 l25 l12 (zup3 (zup3 F19 14 0 54 (F19 14 0 0)) 14 0 55 (F19 14 0 1)) B19) (fun r23 F23 B23 => zbind (f_M_plus K l13 l15 l23 l25 F23 B23) (fun r24 F24 B24 => zbind (f_M_minus K l17 l19 l23 l25 F24 B24) (fun r25 F25 B25 => rec16 (F25 14 0 1) (F25 14 0 0) (F24 14 0 1) (F24 14 0 0) l1 l2 l3 l12 F25 B25))) else none) else none else none else none) = some (r, F9, B9) := hf
  refine lv_aload_n hx hb d_15_87_111 rfl (lv_at hl 7 rfl) ?_
  refine lv_lload hx hb d_15_87_112 (lv_at hl 6 rfl) ?_
  refine lv_lload hx hb d_15_87_114 (lv_at hl 5 rfl) ?_
  refine lv_lload hx hb d_15_87_116 (lv_at hl 2 rfl) ?_
  refine lv_aload_n hx hb d_15_87_118 rfl (lv_at hl 8 rfl) ?_
  obtain ⟨g16, hf⟩ := gif hf
  refine zget (ci := 13) (C := RX13) (T := TX13) (v := .int (iI (F 13 l1 4))) (k := 4) hx hb hts inW_13 hown hK hZ g16.1 g16.2 rfl (by decide) k_9_129 rfl d_15_87_119 ?_
  obtain ⟨g17, hf⟩ := gif hf
  refine zi2l hx hb g17 d_15_87_122 ?_
  refine zlmul hx hb d_15_87_123 ?_
  refine lv_aload_n hx hb d_15_87_124 rfl (lv_at hl 8 rfl) ?_
  refine zget (ci := 13) (C := RX13) (T := TX13) (v := .int (iI (F 13 l1 5))) (k := 5) hx hb hts inW_13 hown hK hZ g16.1 g16.2 rfl (by decide) k_9_130 rfl d_15_87_125 ?_
  obtain ⟨g18, hf⟩ := gif hf
  refine zi2l hx hb g18 d_15_87_128 ?_
  obtain ⟨r19, F19, B19, hc19, hf⟩ := gbind hf
  refine va_callv (va_runV (As := [.long (lI l13), .long (lI l15), .long (lI (l21 * (F 13 l1 4))), .long (lI (F 13 l1 5))]) (rest := []) ⟨hx, hb, hml, hown, hts⟩ (c_M_minus (l := l) hc19) (cwV 4 hts (gdV k_13_132 k_13_134 ks_174 k_1_9 k_13_135) rfl rfl rfl (by decide +kernel) ⟨Nat.le_of_ble_eq_true rfl, Nat.le_of_ble_eq_true rfl⟩) (zPV X hZ hS (ci := 14) (by decide) (by decide) (r := (RX14, TX14, 107)) rfl [.long (lI l13), .long (lI l15), .long (lI (l21 * (F 13 l1 4))), .long (lI (F 13 l1 5))]) rfl rfl hl.1 rfl (lv_room (Nat.le_of_ble_eq_true rfl)) d_15_87_129 ⟨Nat.le_of_ble_eq_true rfl, Nat.le_of_ble_eq_true rfl⟩) hS (fun q _ h => zAin X hS q h) (zAin X hS) (fun u19 t19 H19 locs19 ht19 hv19 hw19 hB19 hz19 hk19 hS19 => ?_)
  have hZ19 := zBack X ht19 hB19
  refine lv_aload_n hx hb d_15_87_132 rfl (lv_at hl 7 rfl) ?_
  refine lv_aload_n hx hb d_15_87_133 rfl (lv_at hl 7 rfl) ?_
  refine zget (ci := 14) (C := RX14) (T := TX14) (v := .long (lI (F19 14 0 0))) (k := 0) hx hb hts inW_14 hown hK hZ19 (by decide) (by decide) rfl (by decide) k_10_238 rfl d_15_87_134 ?_
  refine zput (ci := 14) (C := RX14) (T := TX14) (k := 54) (v := (F19 14 0 0)) (w := .long (lI (F19 14 0 0))) hx hb hts inW_14 tyX14 tyX14_ok nmX14 hown hK hZ19 hS19 (by decide) (by decide) rfl (by decide) k_11_52 rfl (fun G h => congrArg (fun q => Value.long (lI q)) h) rfl rfl d_15_87_137 (fun H20 locs20 hZ20 hS20 => ?_)
  refine lv_aload_n hx hb d_15_87_140 rfl (lv_at hl 7 rfl) ?_
  refine lv_aload_n hx hb d_15_87_141 rfl (lv_at hl 7 rfl) ?_
  refine zget (ci := 14) (C := RX14) (T := TX14) (v := .long (lI (F19 14 0 1))) (k := 1) hx hb hts inW_14 hown hK hZ20 (by decide) (by decide) rfl (by decide) k_10_239 rfl d_15_87_142 ?_
  refine zput (ci := 14) (C := RX14) (T := TX14) (k := 55) (v := (F19 14 0 1)) (w := .long (lI (F19 14 0 1))) hx hb hts inW_14 tyX14 tyX14_ok nmX14 hown hK hZ20 hS20 (by decide) (by decide) rfl (by decide) k_11_53 rfl (fun G h => congrArg (fun q => Value.long (lI q)) h) rfl rfl d_15_87_145 (fun H21 locs21 hZ21 hS21 => ?_)
  refine lv_aload_n hx hb d_15_87_148 rfl (lv_at hl 7 rfl) ?_
  refine lv_aload_n hx hb d_15_87_149 rfl (lv_at hl 8 rfl) ?_
  refine lv_iload_n hx hb d_15_87_150 rfl (lv_at hl 9 rfl) ?_
  refine lv_iload_n hx hb d_15_87_151 rfl (lv_at hl 10 rfl) ?_
  refine lv_lload hx hb d_15_87_152 (lv_at hl 2 rfl) ?_
  obtain ⟨g22, hf⟩ := gif hf
  refine zl2i hx hb g22 d_15_87_154 ?_
  refine lv_lload hx hb d_15_87_155 (lv_at hl 1 rfl) ?_
  refine lv_lload hx hb d_15_87_157 (lv_at hl 0 rfl) ?_
  refine lv_iload hx hb d_15_87_159 (lv_at hl 11 rfl) ?_
  obtain ⟨r23, F23, B23, hc23, hf⟩ := gbind hf
  refine va_callv (va_runV (As := [.ref (ad 13 l1 0), .int (iI l2), .int (iI l3), .int (iI l21), .long (lI l23), .long (lI l25), .int (iI l12)]) (rest := []) ⟨hx, hb, hml, hown, hts⟩ (c_M_part (l := l) hc23) (cwV 7 hts (gdV k_13_147 k_13_149 ks_177 k_1_9 k_13_150) rfl rfl rfl (by decide +kernel) ⟨Nat.le_of_ble_eq_true rfl, Nat.le_of_ble_eq_true rfl⟩) (zPV X hZ21 hS21 (ci := 14) (by decide) (by decide) (r := (RX14, TX14, 107)) rfl [.ref (ad 13 l1 0), .int (iI l2), .int (iI l3), .int (iI l21), .long (lI l23), .long (lI l25), .int (iI l12)]) rfl rfl hl.1 rfl (lv_room (Nat.le_of_ble_eq_true rfl)) d_15_87_161 ⟨Nat.le_of_ble_eq_true rfl, Nat.le_of_ble_eq_true rfl⟩) hS21 (fun q _ h => zAin X hS21 q h) (zAin X hS21) (fun u23 t23 H23 locs23 ht23 hv23 hw23 hB23 hz23 hk23 hS23 => ?_)
  have hZ23 := zBack X ht23 hB23
  refine lv_aload_n hx hb d_15_87_164 rfl (lv_at hl 7 rfl) ?_
  refine lv_lload hx hb d_15_87_165 (lv_at hl 6 rfl) ?_
  refine lv_lload hx hb d_15_87_167 (lv_at hl 5 rfl) ?_
  refine lv_lload hx hb d_15_87_169 (lv_at hl 1 rfl) ?_
  refine lv_lload hx hb d_15_87_171 (lv_at hl 0 rfl) ?_
  obtain ⟨r24, F24, B24, hc24, hf⟩ := gbind hf
  refine va_callv (va_runV (As := [.long (lI l13), .long (lI l15), .long (lI l23), .long (lI l25)]) (rest := []) ⟨hx, hb, hml, hown, hts⟩ (c_M_plus (l := l) hc24) (cwV 4 hts (gdV k_12_147 k_12_149 ks_135 k_1_9 k_12_150) rfl rfl rfl (by decide +kernel) ⟨Nat.le_of_ble_eq_true rfl, Nat.le_of_ble_eq_true rfl⟩) (zPV X hZ23 hS23 (ci := 14) (by decide) (by decide) (r := (RX14, TX14, 107)) rfl [.long (lI l13), .long (lI l15), .long (lI l23), .long (lI l25)]) rfl rfl hl.1 rfl (lv_room (Nat.le_of_ble_eq_true rfl)) d_15_87_173 ⟨Nat.le_of_ble_eq_true rfl, Nat.le_of_ble_eq_true rfl⟩) hS23 (fun q _ h => zAin X hS23 q h) (zAin X hS23) (fun u24 t24 H24 locs24 ht24 hv24 hw24 hB24 hz24 hk24 hS24 => ?_)
  have hZ24 := zBack X ht24 hB24
  refine lv_aload_n hx hb d_15_87_176 rfl (lv_at hl 7 rfl) ?_
  refine zget (ci := 14) (C := RX14) (T := TX14) (v := .long (lI (F24 14 0 0))) (k := 0) hx hb hts inW_14 hown hK hZ24 (by decide) (by decide) rfl (by decide) k_10_238 rfl d_15_87_177 ?_
  refine lv_lstore (lv' := [(13, .long (lI (F24 14 0 0))), (25, .long (lI l25)), (23, .long (lI l23)), (21, .long (lI l21)), (19, .long (lI l19)), (17, .long (lI l17)), (15, .long (lI l15)), (0, .ref (ad 14 0 0)), (1, .ref (ad 13 l1 0)), (2, .int (iI l2)), (3, .int (iI l3)), (12, .int (iI l12))]) hx hb d_15_87_180 hl (by decide) rfl (fun ls hl => ?_)
  refine lv_aload_n hx hb d_15_87_182 rfl (lv_at hl 7 rfl) ?_
  refine zget (ci := 14) (C := RX14) (T := TX14) (v := .long (lI (F24 14 0 1))) (k := 1) hx hb hts inW_14 hown hK hZ24 (by decide) (by decide) rfl (by decide) k_10_239 rfl d_15_87_183 ?_
  refine lv_lstore (lv' := [(15, .long (lI (F24 14 0 1))), (13, .long (lI (F24 14 0 0))), (25, .long (lI l25)), (23, .long (lI l23)), (21, .long (lI l21)), (19, .long (lI l19)), (17, .long (lI l17)), (0, .ref (ad 14 0 0)), (1, .ref (ad 13 l1 0)), (2, .int (iI l2)), (3, .int (iI l3)), (12, .int (iI l12))]) hx hb d_15_87_186 hl (by decide) rfl (fun ls hl => ?_)
  refine lv_aload_n hx hb d_15_87_188 rfl (lv_at hl 7 rfl) ?_
  refine lv_lload hx hb d_15_87_189 (lv_at hl 6 rfl) ?_
  refine lv_lload hx hb d_15_87_191 (lv_at hl 5 rfl) ?_
  refine lv_lload hx hb d_15_87_193 (lv_at hl 3 rfl) ?_
  refine lv_lload hx hb d_15_87_195 (lv_at hl 2 rfl) ?_
  obtain ⟨r25, F25, B25, hc25, hf⟩ := gbind hf
  refine va_callv (va_runV (As := [.long (lI l17), .long (lI l19), .long (lI l23), .long (lI l25)]) (rest := []) ⟨hx, hb, hml, hown, hts⟩ (c_M_minus (l := l) hc25) (cwV 4 hts (gdV k_13_132 k_13_134 ks_174 k_1_9 k_13_135) rfl rfl rfl (by decide +kernel) ⟨Nat.le_of_ble_eq_true rfl, Nat.le_of_ble_eq_true rfl⟩) (zPV X hZ24 hS24 (ci := 14) (by decide) (by decide) (r := (RX14, TX14, 107)) rfl [.long (lI l17), .long (lI l19), .long (lI l23), .long (lI l25)]) rfl rfl hl.1 rfl (lv_room (Nat.le_of_ble_eq_true rfl)) d_15_87_197 ⟨Nat.le_of_ble_eq_true rfl, Nat.le_of_ble_eq_true rfl⟩) hS24 (fun q _ h => zAin X hS24 q h) (zAin X hS24) (fun u25 t25 H25 locs25 ht25 hv25 hw25 hB25 hz25 hk25 hS25 => ?_)
  have hZ25 := zBack X ht25 hB25
  refine lv_aload_n hx hb d_15_87_200 rfl (lv_at hl 7 rfl) ?_
  refine zget (ci := 14) (C := RX14) (T := TX14) (v := .long (lI (F25 14 0 0))) (k := 0) hx hb hts inW_14 hown hK hZ25 (by decide) (by decide) rfl (by decide) k_10_238 rfl d_15_87_201 ?_
  refine lv_lstore (lv' := [(17, .long (lI (F25 14 0 0))), (15, .long (lI (F24 14 0 1))), (13, .long (lI (F24 14 0 0))), (25, .long (lI l25)), (23, .long (lI l23)), (21, .long (lI l21)), (19, .long (lI l19)), (0, .ref (ad 14 0 0)), (1, .ref (ad 13 l1 0)), (2, .int (iI l2)), (3, .int (iI l3)), (12, .int (iI l12))]) hx hb d_15_87_204 hl (by decide) rfl (fun ls hl => ?_)
  refine lv_aload_n hx hb d_15_87_206 rfl (lv_at hl 7 rfl) ?_
  refine zget (ci := 14) (C := RX14) (T := TX14) (v := .long (lI (F25 14 0 1))) (k := 1) hx hb hts inW_14 hown hK hZ25 (by decide) (by decide) rfl (by decide) k_10_239 rfl d_15_87_207 ?_
  refine lv_lstore (lv' := [(19, .long (lI (F25 14 0 1))), (17, .long (lI (F25 14 0 0))), (15, .long (lI (F24 14 0 1))), (13, .long (lI (F24 14 0 0))), (25, .long (lI l25)), (23, .long (lI l23)), (21, .long (lI l21)), (0, .ref (ad 14 0 0)), (1, .ref (ad 13 l1 0)), (2, .int (iI l2)), (3, .int (iI l3)), (12, .int (iI l12))]) hx hb d_15_87_210 hl (by decide) rfl (fun ls hl => ?_)
  refine lv_goto (tgt := 16) hx hb d_15_87_212 (by decide) ?_
  exact hrec16 hf hZ25 hS25 (lv_sub hl [0, 1, 2, 3, 7, 8, 9, 10, 11] rfl)

def f_M_pieces_16 (K : Nat) : Nat → Int → Int → Int → Int → Int → Int → Int → Int → zF → zB → zO
  | 0, _, _, _, _, _, _, _, _, _, _ => none
  | n + 1, l19, l17, l15, l13, l1, l2, l3, l12, F, B => if r64 l17 then (if (zcmp l17 0) ≤ 0 then f_M_pieces_215 K F B else if 0 ≤ l1 ∧ l1 < 3 then if 0 ≤ l2 ∧ l2 < 4 then if r32 (B 13 l1 13 l2) then (if 800 < (B 13 l1 13 l2) then f_M_pieces_215 K F B else if r32 (F 13 l1 4) then if r32 (F 13 l1 5) then zbind (f_M_often K l13 l15 (F 13 l1 4) (F 13 l1 5) F B) (fun r9 F9 B9 => if r32 (F9 13 l1 4) then if r32 (F9 13 l1 5) then zbind (f_M_minus K ((r9 + 1) * (F9 13 l1 4)) (F9 13 l1 5) l13 l15 F9 B9) (fun r12 F12 B12 => zbind (f_M_compare K l17 l19 (F12 14 0 0) (F12 14 0 1) F12 B12) (fun r13 F13 B13 => if r32 r13 then (if 0 ≤ r13 then f_M_pieces_111 (f_M_pieces_16 K n) K (F12 14 0 1) (F12 14 0 0) r9 l19 l17 l15 l13 l1 l2 l3 l12 F13 B13 else f_M_pieces_111 (f_M_pieces_16 K n) K l19 l17 r9 l19 l17 l15 l13 l1 l2 l3 l12 F13 B13) else none)) else none else none) else none else none) else none else none else none) else none
set_option maxHeartbeats 4000000 in
set_option maxRecDepth 100000 in
theorem b_M_pieces_16 {D : va_G} {ca : Nat → ClassId} {ad : Nat → Int → Nat → Nat} {L : List Nat} {aS vS : Nat → Nat} {A : Nat → Prop} {p : Program} {l : Launch} {e : Env} {s : State} {m : MethodId} {args : Array Value} {below : List Frame} {meth : Method} {c : Code} {K : Nat} {r : Int} {F9 : zF} {B9 : zB} (X : zX D ca L aS vS A p s m args meth c prog_15_method_87_code 27 (Option.none : Option Jvm.ClassFile.FieldType) "StaveHouseModel") : ∀ {n : Nat} {l19 : Int} {l17 : Int} {l15 : Int} {l13 : Int} {l1 : Int} {l2 : Int} {l3 : Int} {l12 : Int} {F : zF} {B : zB} {H : Heap} {locs : List Loc} {ls : Array Slot}, f_M_pieces_16 K n l19 l17 l15 l13 l1 l2 l3 l12 F B = some (r, F9, B9) → zH D ca ad lnM nM L F B A H → va_S A s.heap H locs → lv_has ls 27 [(19, .long (lI l19)), (17, .long (lI l17)), (15, .long (lI l15)), (13, .long (lI l13)), (0, .ref (ad 14 0 0)), (1, .ref (ad 13 l1 0)), (2, .int (iI l2)), (3, .int (iI l3)), (12, .int (iI l12))] → W p l e ({ frames := 7, cells := 0, slots := 0, locals := 230 } : Room) s m args below meth c H locs 0 0 (MQ below (Q_M_pieces D ca ad L r F9 B9 A) args s 0 0 A) (F0 m 16 ls []) := by
  obtain ⟨hx, hb, hr, hml, hown, hts, hlk, hK, hA, hL, hX⟩ := id X
  intro n
  induction n with
  | zero =>
    intros
    rename_i hf _ _ _
    cases hf
  | succ n ih =>
    intro l19 l17 l15 l13 l1 l2 l3 l12 F B H locs ls hf hZ hS hl
    replace hf : (if r64 l17 then (if (zcmp l17 0) ≤ 0 then f_M_pieces_215 K F B else if 0 ≤ l1 ∧ l1 < 3 then if 0 ≤ l2 ∧ l2 < 4 then if r32 (B 13 l1 13 l2) then (if 800 < (B 13 l1 13 l2) then f_M_pieces_215 K F B else if r32 (F 13 l1 4) then if r32 (F 13 l1 5) then zbind (f_M_often K l13 l15 (F 13 l1 4) (F 13 l1 5) F B) (fun r9 F9 B9 => if r32 (F9 13 l1 4) then if r32 (F9 13 l1 5) then zbind (f_M_minus K ((r9 + 1) * (F9 13 l1 4)) (F9 13 l1 5) l13 l15 F9 B9) (fun r12 F12 B12 => zbind (f_M_compare K l17 l19 (F12 14 0 0) (F12 14 0 1) F12 B12) (fun r13 F13 B13 => if r32 r13 then (if 0 ≤ r13 then f_M_pieces_111 (f_M_pieces_16 K n) K (F12 14 0 1) (F12 14 0 0) r9 l19 l17 l15 l13 l1 l2 l3 l12 F13 B13 else f_M_pieces_111 (f_M_pieces_16 K n) K l19 l17 r9 l19 l17 l15 l13 l1 l2 l3 l12 F13 B13) else none)) else none else none) else none else none) else none else none else none) else none) = some (r, F9, B9) := hf
    refine lv_lload hx hb d_15_87_16 (lv_at hl 1 rfl) ?_
    refine lv_lconst (v := lI 0) hx hb d_15_87_18 (by decide) ?_
    obtain ⟨g1, hf⟩ := gif hf
    refine zcmp_r hx hb g1 (by decide) d_15_87_19 ?_
    refine z0le (tgt := 215) hx hb zcmp_32 d_15_87_20 (by decide) (fun h2 => ?_) (fun h2 => ?_)
    · replace hf := gpos hf h2
      exact b_M_pieces_215 X hf hZ hS (lv_sub hl [] rfl)
    · replace hf := gneg hf h2
      refine lv_aload_n hx hb d_15_87_23 rfl (lv_at hl 5 rfl) ?_
      obtain ⟨g3, hf⟩ := gif hf
      refine zget (ci := 13) (C := RX13) (T := TX13) (v := .ref (ad 13 l1 (13 + 1))) (k := 13) hx hb hts inW_13 hown hK hZ g3.1 g3.2 rfl (by decide) k_9_144 rfl d_15_87_24 ?_
      refine lv_iload_n hx hb d_15_87_27 rfl (lv_at hl 6 rfl) ?_
      obtain ⟨g4, hf⟩ := gif hf
      refine zald (ci := 13) (k := 13) hx hb hK rfl hZ g3.1 g3.2 rfl (Nat.le_of_ble_eq_true rfl) g4.1 g4.2 d_15_87_28 ?_
      refine lv_sipush (v := iI 800) hx hb d_15_87_29 (by decide) ?_
      obtain ⟨g5, hf⟩ := gif hf
      refine zgt (tgt := 215) hx hb g5 (by decide) d_15_87_32 (by decide) (fun h6 => ?_) (fun h6 => ?_)
      · replace hf := gpos hf h6
        exact b_M_pieces_215 X hf hZ hS (lv_sub hl [] rfl)
      · replace hf := gneg hf h6
        refine lv_lload hx hb d_15_87_35 (lv_at hl 3 rfl) ?_
        refine lv_lload hx hb d_15_87_37 (lv_at hl 2 rfl) ?_
        refine lv_aload_n hx hb d_15_87_39 rfl (lv_at hl 5 rfl) ?_
        refine zget (ci := 13) (C := RX13) (T := TX13) (v := .int (iI (F 13 l1 4))) (k := 4) hx hb hts inW_13 hown hK hZ g3.1 g3.2 rfl (by decide) k_9_129 rfl d_15_87_40 ?_
        obtain ⟨g7, hf⟩ := gif hf
        refine zi2l hx hb g7 d_15_87_43 ?_
        refine lv_aload_n hx hb d_15_87_44 rfl (lv_at hl 5 rfl) ?_
        refine zget (ci := 13) (C := RX13) (T := TX13) (v := .int (iI (F 13 l1 5))) (k := 5) hx hb hts inW_13 hown hK hZ g3.1 g3.2 rfl (by decide) k_9_130 rfl d_15_87_45 ?_
        obtain ⟨g8, hf⟩ := gif hf
        refine zi2l hx hb g8 d_15_87_48 ?_
        obtain ⟨r9, F9, B9, hc9, hf⟩ := gbind hf
        refine va_calll (va_runS (As := [.long (lI l13), .long (lI l15), .long (lI (F 13 l1 4)), .long (lI (F 13 l1 5))]) (rest := []) ⟨hx, hb, hml, hown, hts⟩ (c_M_often (l := l) hc9) (va_cwS 4 hts (gdS k_13_144 k_13_145 k_1_9 k_13_146) rfl rfl rfl (by decide +kernel) ⟨Nat.le_of_ble_eq_true rfl, Nat.le_of_ble_eq_true rfl⟩) (zPS X hZ hS [.long (lI l13), .long (lI l15), .long (lI (F 13 l1 4)), .long (lI (F 13 l1 5))]) rfl rfl hl.1 rfl (lv_room (Nat.le_of_ble_eq_true rfl)) d_15_87_49 ⟨Nat.le_of_ble_eq_true rfl, Nat.le_of_ble_eq_true rfl⟩) hS (fun q _ h => zAin X hS q h) (zAin X hS) (fun p9 u9 t9 H9 locs9 ht9 hv9 hw9 hB9 hz9 hk9 hS9 => ?_)
        have hZ9 := zBack X ht9 hB9
        subst hw9
        refine lv_lstore (lv' := [(21, .long (lI r9)), (19, .long (lI l19)), (17, .long (lI l17)), (15, .long (lI l15)), (13, .long (lI l13)), (0, .ref (ad 14 0 0)), (1, .ref (ad 13 l1 0)), (2, .int (iI l2)), (3, .int (iI l3)), (12, .int (iI l12))]) hx hb d_15_87_52 hl (by decide) rfl (fun ls hl => ?_)
        refine lv_aload_n hx hb d_15_87_54 rfl (lv_at hl 5 rfl) ?_
        refine lv_lload hx hb d_15_87_55 (lv_at hl 0 rfl) ?_
        refine lv_lconst (v := lI 1) hx hb d_15_87_57 (by decide) ?_
        refine zladd hx hb d_15_87_58 ?_
        refine lv_aload_n hx hb d_15_87_59 rfl (lv_at hl 6 rfl) ?_
        refine zget (ci := 13) (C := RX13) (T := TX13) (v := .int (iI (F9 13 l1 4))) (k := 4) hx hb hts inW_13 hown hK hZ9 g3.1 g3.2 rfl (by decide) k_9_129 rfl d_15_87_60 ?_
        obtain ⟨g10, hf⟩ := gif hf
        refine zi2l hx hb g10 d_15_87_63 ?_
        refine zlmul hx hb d_15_87_64 ?_
        refine lv_aload_n hx hb d_15_87_65 rfl (lv_at hl 6 rfl) ?_
        refine zget (ci := 13) (C := RX13) (T := TX13) (v := .int (iI (F9 13 l1 5))) (k := 5) hx hb hts inW_13 hown hK hZ9 g3.1 g3.2 rfl (by decide) k_9_130 rfl d_15_87_66 ?_
        obtain ⟨g11, hf⟩ := gif hf
        refine zi2l hx hb g11 d_15_87_69 ?_
        refine lv_lload hx hb d_15_87_70 (lv_at hl 4 rfl) ?_
        refine lv_lload hx hb d_15_87_72 (lv_at hl 3 rfl) ?_
        obtain ⟨r12, F12, B12, hc12, hf⟩ := gbind hf
        refine va_callv (va_runV (As := [.long (lI ((r9 + 1) * (F9 13 l1 4))), .long (lI (F9 13 l1 5)), .long (lI l13), .long (lI l15)]) (rest := []) ⟨hx, hb, hml, hown, hts⟩ (c_M_minus (l := l) hc12) (cwV 4 hts (gdV k_13_132 k_13_134 ks_174 k_1_9 k_13_135) rfl rfl rfl (by decide +kernel) ⟨Nat.le_of_ble_eq_true rfl, Nat.le_of_ble_eq_true rfl⟩) (zPV X hZ9 hS9 (ci := 14) (by decide) (by decide) (r := (RX14, TX14, 107)) rfl [.long (lI ((r9 + 1) * (F9 13 l1 4))), .long (lI (F9 13 l1 5)), .long (lI l13), .long (lI l15)]) rfl rfl hl.1 rfl (lv_room (Nat.le_of_ble_eq_true rfl)) d_15_87_74 ⟨Nat.le_of_ble_eq_true rfl, Nat.le_of_ble_eq_true rfl⟩) hS9 (fun q _ h => zAin X hS9 q h) (zAin X hS9) (fun u12 t12 H12 locs12 ht12 hv12 hw12 hB12 hz12 hk12 hS12 => ?_)
        have hZ12 := zBack X ht12 hB12
        refine lv_aload_n hx hb d_15_87_77 rfl (lv_at hl 5 rfl) ?_
        refine zget (ci := 14) (C := RX14) (T := TX14) (v := .long (lI (F12 14 0 0))) (k := 0) hx hb hts inW_14 hown hK hZ12 (by decide) (by decide) rfl (by decide) k_10_238 rfl d_15_87_78 ?_
        refine lv_lstore (lv' := [(23, .long (lI (F12 14 0 0))), (21, .long (lI r9)), (19, .long (lI l19)), (17, .long (lI l17)), (15, .long (lI l15)), (13, .long (lI l13)), (0, .ref (ad 14 0 0)), (1, .ref (ad 13 l1 0)), (2, .int (iI l2)), (3, .int (iI l3)), (12, .int (iI l12))]) hx hb d_15_87_81 hl (by decide) rfl (fun ls hl => ?_)
        refine lv_aload_n hx hb d_15_87_83 rfl (lv_at hl 6 rfl) ?_
        refine zget (ci := 14) (C := RX14) (T := TX14) (v := .long (lI (F12 14 0 1))) (k := 1) hx hb hts inW_14 hown hK hZ12 (by decide) (by decide) rfl (by decide) k_10_239 rfl d_15_87_84 ?_
        refine lv_lstore (lv' := [(25, .long (lI (F12 14 0 1))), (23, .long (lI (F12 14 0 0))), (21, .long (lI r9)), (19, .long (lI l19)), (17, .long (lI l17)), (15, .long (lI l15)), (13, .long (lI l13)), (0, .ref (ad 14 0 0)), (1, .ref (ad 13 l1 0)), (2, .int (iI l2)), (3, .int (iI l3)), (12, .int (iI l12))]) hx hb d_15_87_87 hl (by decide) rfl (fun ls hl => ?_)
        refine lv_lload hx hb d_15_87_89 (lv_at hl 4 rfl) ?_
        refine lv_lload hx hb d_15_87_91 (lv_at hl 3 rfl) ?_
        refine lv_lload hx hb d_15_87_93 (lv_at hl 1 rfl) ?_
        refine lv_lload hx hb d_15_87_95 (lv_at hl 0 rfl) ?_
        obtain ⟨r13, F13, B13, hc13, hf⟩ := gbind hf
        refine va_calli (va_runS (As := [.long (lI l17), .long (lI l19), .long (lI (F12 14 0 0)), .long (lI (F12 14 0 1))]) (rest := []) ⟨hx, hb, hml, hown, hts⟩ (c_M_compare (l := l) hc13) (va_cwS 4 hts (gdS k_13_104 k_13_105 k_1_9 k_13_106) rfl rfl rfl (by decide +kernel) ⟨Nat.le_of_ble_eq_true rfl, Nat.le_of_ble_eq_true rfl⟩) (zPS X hZ12 hS12 [.long (lI l17), .long (lI l19), .long (lI (F12 14 0 0)), .long (lI (F12 14 0 1))]) rfl rfl hl.1 rfl (lv_room (Nat.le_of_ble_eq_true rfl)) d_15_87_97 ⟨Nat.le_of_ble_eq_true rfl, Nat.le_of_ble_eq_true rfl⟩) hS12 (fun q _ h => zAin X hS12 q h) (zAin X hS12) (fun p13 u13 t13 H13 locs13 ht13 hv13 hw13 hB13 hz13 hk13 hS13 => ?_)
        have hZ13 := zBack X ht13 hB13
        subst hw13
        obtain ⟨g14, hf⟩ := gif hf
        refine z0ge (tgt := 111) hx hb g14 d_15_87_100 (by decide) (fun h15 => ?_) (fun h15 => ?_)
        · replace hf := gpos hf h15
          exact b_M_pieces_111 X ih hf hZ13 hS13 (lv_sub hl [0, 1, 2, 3, 4, 5, 6, 7, 8, 9, 10, 11] rfl)
        · replace hf := gneg hf h15
          refine lv_lload hx hb d_15_87_103 (lv_at hl 4 rfl) ?_
          refine lv_lstore (lv' := [(23, .long (lI l17)), (25, .long (lI (F12 14 0 1))), (21, .long (lI r9)), (19, .long (lI l19)), (17, .long (lI l17)), (15, .long (lI l15)), (13, .long (lI l13)), (0, .ref (ad 14 0 0)), (1, .ref (ad 13 l1 0)), (2, .int (iI l2)), (3, .int (iI l3)), (12, .int (iI l12))]) hx hb d_15_87_105 hl (by decide) rfl (fun ls hl => ?_)
          refine lv_lload hx hb d_15_87_107 (lv_at hl 3 rfl) ?_
          refine lv_lstore (lv' := [(25, .long (lI l19)), (23, .long (lI l17)), (21, .long (lI r9)), (19, .long (lI l19)), (17, .long (lI l17)), (15, .long (lI l15)), (13, .long (lI l13)), (0, .ref (ad 14 0 0)), (1, .ref (ad 13 l1 0)), (2, .int (iI l2)), (3, .int (iI l3)), (12, .int (iI l12))]) hx hb d_15_87_109 hl (by decide) rfl (fun ls hl => ?_)
          exact b_M_pieces_111 X ih hf hZ13 hS13 (lv_sub hl [0, 1, 2, 3, 4, 5, 6, 7, 8, 9, 10, 11] rfl)

def f_M_pieces (K : Nat) (l1 : Int) (l2 : Int) (l3 : Int) (l4 : Int) (l6 : Int) (l8 : Int) (l10 : Int) (l12 : Int) (F : zF) (B : zB) : zO := f_M_pieces_16 K K l10 l8 l6 l4 l1 l2 l3 l12 F B
set_option maxHeartbeats 4000000 in
set_option maxRecDepth 100000 in
theorem c_M_pieces {l : Launch} {D : va_G} {ca : Nat → ClassId} {ad : Nat → Int → Nat → Nat} {L : List Nat} {aS vS : Nat → Nat} {sz K : Nat} {l1 : Int} {l2 : Int} {l3 : Int} {l4 : Int} {l6 : Int} {l8 : Int} {l10 : Int} {l12 : Int} {F F9 : zF} {B B9 : zB} {r : Int} (hf : f_M_pieces K l1 l2 l3 l4 l6 l8 l10 l12 F B = some (r, F9, B9)) : Met l ({ cls := "StaveHouseModel", name := "pieces", desc := "(LStaveHouseModel$Piece;IIJJJJZ)V" } : Jvm.MethodName) (Cond.code ({ cls := "StaveHouseModel", name := "pieces", desc := "(LStaveHouseModel$Piece;IIJJJJZ)V" } : Jvm.MethodName) prog_15_method_87_code 27 (Option.none : Option Jvm.ClassFile.FieldType) :: wAll) ({ frames := 7, cells := 0, slots := 0, locals := 230 } : Room) (va_Pc [.ref (ad 14 0 0), .ref (ad 13 l1 0), .int (iI l2), .int (iI l3), .long (lI l4), .long (lI l6), .long (lI l8), .long (lI l10), .int (iI l12)] (zPre D ca ad lnM nM L aS vS F B sz)) (Q_M_pieces D ca ad L r F9 B9 (zA L sz)) 0 0 (zA L sz) := by
  refine zMet (Qc := Q_M_pieces D ca ad L r F9 B9) (lv := [(0, .ref (ad 14 0 0)), (1, .ref (ad 13 l1 0)), (2, .int (iI l2)), (3, .int (iI l3)), (4, .long (lI l4)), (6, .long (lI l6)), (8, .long (lI l8)), (10, .long (lI l10)), (12, .int (iI l12))]) (by decide) (Nat.le_of_ble_eq_true rfl) rfl (fun A p e s m below meth c ls X hZ hS hl => ?_)
  obtain ⟨hx, hb, hr, hml, hown, hts, hlk, hK, hA, hL, hX⟩ := id X
  replace hf : (f_M_pieces_16 K K l10 l8 l6 l4 l1 l2 l3 l12 F B) = some (r, F9, B9) := hf
  refine lv_lload hx hb d_15_87_0 (lv_at hl 4 rfl) ?_
  refine lv_lstore (lv' := [(13, .long (lI l4)), (0, .ref (ad 14 0 0)), (1, .ref (ad 13 l1 0)), (2, .int (iI l2)), (3, .int (iI l3)), (4, .long (lI l4)), (6, .long (lI l6)), (8, .long (lI l8)), (10, .long (lI l10)), (12, .int (iI l12))]) hx hb d_15_87_2 hl (by decide) rfl (fun ls hl => ?_)
  refine lv_lload hx hb d_15_87_4 (lv_at hl 6 rfl) ?_
  refine lv_lstore (lv' := [(15, .long (lI l6)), (13, .long (lI l4)), (0, .ref (ad 14 0 0)), (1, .ref (ad 13 l1 0)), (2, .int (iI l2)), (3, .int (iI l3)), (4, .long (lI l4)), (6, .long (lI l6)), (8, .long (lI l8)), (10, .long (lI l10)), (12, .int (iI l12))]) hx hb d_15_87_6 hl (by decide) rfl (fun ls hl => ?_)
  refine lv_lload hx hb d_15_87_8 (lv_at hl 8 rfl) ?_
  refine lv_lstore (lv' := [(17, .long (lI l8)), (15, .long (lI l6)), (13, .long (lI l4)), (0, .ref (ad 14 0 0)), (1, .ref (ad 13 l1 0)), (2, .int (iI l2)), (3, .int (iI l3)), (4, .long (lI l4)), (6, .long (lI l6)), (8, .long (lI l8)), (10, .long (lI l10)), (12, .int (iI l12))]) hx hb d_15_87_10 hl (by decide) rfl (fun ls hl => ?_)
  refine lv_lload hx hb d_15_87_12 (lv_at hl 10 rfl) ?_
  refine lv_lstore (lv' := [(19, .long (lI l10)), (17, .long (lI l8)), (15, .long (lI l6)), (13, .long (lI l4)), (0, .ref (ad 14 0 0)), (1, .ref (ad 13 l1 0)), (2, .int (iI l2)), (3, .int (iI l3)), (4, .long (lI l4)), (6, .long (lI l6)), (8, .long (lI l8)), (10, .long (lI l10)), (12, .int (iI l12))]) hx hb d_15_87_14 hl (by decide) rfl (fun ls hl => ?_)
  exact b_M_pieces_16 X hf hZ hS (lv_sub hl [0, 1, 2, 3, 4, 5, 6, 7, 12] rfl)

