theorem k_2_185 : (Jvm.Cond.fieldLink "StaveHouse$Piece" (11 : Nat) "StaveHouse$Piece" "parts" "[LStaveHouse$Part;") ∈ wAll := wA_2 (j := 185) rfl rfl
theorem k_4_115 : (Jvm.Cond.fieldLink "StaveHouse$Piece" (68 : Nat) "StaveHouse$Part" "word" "J") ∈ wAll := wA_4 (j := 115) rfl rfl
theorem k_4_135 : (Jvm.Cond.fieldLink "StaveHouse$Part" (31 : Nat) "StaveHouse$Part" "eventCount" "I") ∈ wAll := wA_4 (j := 135) rfl rfl
theorem k_4_148 : (Jvm.Cond.fieldLink "StaveHouse$Part" (35 : Nat) "StaveHouse$Part" "noteCount" "I") ∈ wAll := wA_4 (j := 148) rfl rfl
theorem k_4_140 : (Jvm.Cond.fieldLink "StaveHouse$Part" (38 : Nat) "StaveHouse$Part" "endPlace" "J") ∈ wAll := wA_4 (j := 140) rfl rfl
theorem k_1_192 : (Jvm.Cond.fieldLink "StaveHouse$Walker" (32 : Nat) "StaveHouse$Walker" "wrong" "I") ∈ wAll := wA_1 (j := 192) rfl rfl
theorem k_4_193 : (Jvm.Cond.constantLong "StaveHouse$Piece" (72 : Nat) (812851200 : Int64)) ∈ wAll := wA_4 (j := 193) rfl rfl
theorem k_4_194 : (Jvm.Cond.methodLink "StaveHouse$Piece" (74 : Nat) ({ cls := "java/lang/Math", name := "max", desc := "(II)I" } : Jvm.MethodName)) ∈ wAll := wA_4 (j := 194) rfl rfl
theorem k_1_39 : (Jvm.Cond.static ({ cls := "java/lang/Math", name := "max", desc := "(II)I" } : Jvm.MethodName)) ∈ wAll := wA_1 (j := 39) rfl rfl
theorem k_1_40 : (Jvm.Cond.code ({ cls := "java/lang/Math", name := "max", desc := "(II)I" } : Jvm.MethodName) prog_20_method_65_code (2 : Nat) (Option.some Jvm.ClassFile.FieldType.int)) ∈ wAll := wA_1 (j := 40) rfl rfl
theorem k_4_220 : (Jvm.Cond.fieldLink "StaveHouse$Walker" (145 : Nat) "StaveHouse$Walker" "PRIMES" "[I") ∈ wAll := wA_4 (j := 220) rfl rfl
theorem k_1_204 : (Jvm.Cond.fieldLink "StaveHouse$Walker" (9 : Nat) "StaveHouse$Walker" "powers" "[I") ∈ wAll := wA_1 (j := 204) rfl rfl
theorem k_2_48 : (Jvm.Cond.fieldLink "StaveHouse$Event" (18 : Nat) "StaveHouse$Event" "count" "I") ∈ wAll := wA_2 (j := 48) rfl rfl
theorem k_2_57 : (Jvm.Cond.fieldLink "StaveHouse$Event" (9 : Nat) "StaveHouse$Event" "steps" "[I") ∈ wAll := wA_2 (j := 57) rfl rfl
theorem k_2_63 : (Jvm.Cond.fieldLink "StaveHouse$Event" (15 : Nat) "StaveHouse$Event" "alterations" "[I") ∈ wAll := wA_2 (j := 63) rfl rfl
theorem k_4_130 : (Jvm.Cond.fieldLink "StaveHouse$Part" (11 : Nat) "StaveHouse$Part" "events" "[LStaveHouse$Event;") ∈ wAll := wA_4 (j := 130) rfl rfl
theorem k_2_38 : (Jvm.Cond.fieldLink "StaveHouse$Event" (22 : Nat) "StaveHouse$Event" "marks" "I") ∈ wAll := wA_2 (j := 38) rfl rfl
theorem k_2_21 : (Jvm.Cond.fieldLink "StaveHouse$Part" (84 : Nat) "StaveHouse$Event" "place" "J") ∈ wAll := wA_2 (j := 21) rfl rfl
theorem k_2_24 : (Jvm.Cond.fieldLink "StaveHouse$Part" (87 : Nat) "StaveHouse$Event" "length" "J") ∈ wAll := wA_2 (j := 24) rfl rfl
theorem k_2_34 : (Jvm.Cond.fieldLink "StaveHouse$Part" (90 : Nat) "StaveHouse$Event" "bracket" "I") ∈ wAll := wA_2 (j := 34) rfl rfl
theorem k_5_36 : (Jvm.Cond.constantLong "StaveHouse$Part" (93 : Nat) (6350400 : Int64)) ∈ wAll := wA_5 (j := 36) rfl rfl
theorem k_5_15 : (Jvm.Cond.methodLink "StaveHouse$Part" (45 : Nat) ({ cls := "StaveHouse$Event", name := "has", desc := "(I)Z" } : Jvm.MethodName)) ∈ wAll := wA_5 (j := 15) rfl rfl
theorem k_5_16 : (Jvm.Cond.instanceMethod ({ cls := "StaveHouse$Event", name := "has", desc := "(I)Z" } : Jvm.MethodName)) ∈ wAll := wA_5 (j := 16) rfl rfl
theorem k_5_17 : (Jvm.Cond.selects "StaveHouse$Event" ({ cls := "StaveHouse$Event", name := "has", desc := "(I)Z" } : Jvm.MethodName) ({ cls := "StaveHouse$Event", name := "has", desc := "(I)Z" } : Jvm.MethodName)) ∈ wAll := wA_5 (j := 17) rfl rfl
theorem k_1_8 : (Jvm.Cond.initialized "StaveHouse$Event") ∈ wAll := wA_1 (j := 8) rfl rfl
theorem k_5_18 : (Jvm.Cond.code ({ cls := "StaveHouse$Event", name := "has", desc := "(I)Z" } : Jvm.MethodName) prog_3_method_3_code (2 : Nat) (Option.some Jvm.ClassFile.FieldType.boolean)) ∈ wAll := wA_5 (j := 18) rfl rfl
theorem k_4_151 : (Jvm.Cond.fieldLink "StaveHouse$Part" (81 : Nat) "StaveHouse$Part" "tooManyNotes" "Z") ∈ wAll := wA_4 (j := 151) rfl rfl
theorem k_5_70 : (Jvm.Cond.fieldLink "StaveHouse" (355 : Nat) "StaveHouse" "POINT_QUARTERS" "[I") ∈ wAll := wA_5 (j := 70) rfl rfl
theorem k_4_142 : (Jvm.Cond.fieldLink "StaveHouse$Part" (19 : Nat) "StaveHouse$Part" "notes" "[[I") ∈ wAll := wA_4 (j := 142) rfl rfl
theorem k_4_145 : (Jvm.Cond.fieldLink "StaveHouse$Part" (22 : Nat) "StaveHouse$Part" "notePlaces" "[J") ∈ wAll := wA_4 (j := 145) rfl rfl
theorem k_2_54 : (Jvm.Cond.fieldLink "StaveHouse$Part" (188 : Nat) "StaveHouse$Event" "count" "I") ∈ wAll := wA_2 (j := 54) rfl rfl
theorem k_5_119 : (Jvm.Cond.fieldLink "StaveHouse" (352 : Nat) "StaveHouse" "SHARP_RANKS" "[I") ∈ wAll := wA_5 (j := 119) rfl rfl
theorem k_4_70 : (Jvm.Cond.methodLink "StaveHouse" (349 : Nat) ({ cls := "java/lang/Math", name := "floorMod", desc := "(II)I" } : Jvm.MethodName)) ∈ wAll := wA_4 (j := 70) rfl rfl
theorem k_4_71 : (Jvm.Cond.static ({ cls := "java/lang/Math", name := "floorMod", desc := "(II)I" } : Jvm.MethodName)) ∈ wAll := wA_4 (j := 71) rfl rfl
theorem k_4_72 : (Jvm.Cond.code ({ cls := "java/lang/Math", name := "floorMod", desc := "(II)I" } : Jvm.MethodName) prog_20_method_50_code (3 : Nat) (Option.some Jvm.ClassFile.FieldType.int)) ∈ wAll := wA_4 (j := 72) rfl rfl
theorem k_2_60 : (Jvm.Cond.fieldLink "StaveHouse$Part" (99 : Nat) "StaveHouse$Event" "steps" "[I") ∈ wAll := wA_2 (j := 60) rfl rfl
theorem k_2_65 : (Jvm.Cond.fieldLink "StaveHouse$Part" (102 : Nat) "StaveHouse$Event" "alterations" "[I") ∈ wAll := wA_2 (j := 65) rfl rfl
theorem k_5_129 : (Jvm.Cond.methodLink "StaveHouse$Part" (105 : Nat) ({ cls := "StaveHouse$Event", name := "hasPitch", desc := "(II)Z" } : Jvm.MethodName)) ∈ wAll := wA_5 (j := 129) rfl rfl
theorem k_5_46 : (Jvm.Cond.instanceMethod ({ cls := "StaveHouse$Event", name := "hasPitch", desc := "(II)Z" } : Jvm.MethodName)) ∈ wAll := wA_5 (j := 46) rfl rfl
theorem k_5_47 : (Jvm.Cond.selects "StaveHouse$Event" ({ cls := "StaveHouse$Event", name := "hasPitch", desc := "(II)Z" } : Jvm.MethodName) ({ cls := "StaveHouse$Event", name := "hasPitch", desc := "(II)Z" } : Jvm.MethodName)) ∈ wAll := wA_5 (j := 47) rfl rfl
theorem k_5_48 : (Jvm.Cond.code ({ cls := "StaveHouse$Event", name := "hasPitch", desc := "(II)Z" } : Jvm.MethodName) prog_3_method_6_code (4 : Nat) (Option.some Jvm.ClassFile.FieldType.boolean)) ∈ wAll := wA_5 (j := 48) rfl rfl
theorem k_5_104 : (Jvm.Cond.methodLink "StaveHouse$Part" (191 : Nat) ({ cls := "StaveHouse$Part", name := "isRestNote", desc := "(I)Z" } : Jvm.MethodName)) ∈ wAll := wA_5 (j := 104) rfl rfl
theorem k_5_106 : (Jvm.Cond.instanceMethod ({ cls := "StaveHouse$Part", name := "isRestNote", desc := "(I)Z" } : Jvm.MethodName)) ∈ wAll := wA_5 (j := 106) rfl rfl
theorem ks_54 : (Jvm.Cond.selects "StaveHouse$Part" ({ cls := "StaveHouse$Part", name := "isRestNote", desc := "(I)Z" } : Jvm.MethodName) ({ cls := "StaveHouse$Part", name := "isRestNote", desc := "(I)Z" } : Jvm.MethodName)) ∈ wAll := wA_s (j := 54) rfl rfl
theorem k_1_18 : (Jvm.Cond.initialized "StaveHouse$Part") ∈ wAll := wA_1 (j := 18) rfl rfl
theorem k_5_107 : (Jvm.Cond.code ({ cls := "StaveHouse$Part", name := "isRestNote", desc := "(I)Z" } : Jvm.MethodName) prog_6_method_14_code (3 : Nat) (Option.some Jvm.ClassFile.FieldType.boolean)) ∈ wAll := wA_5 (j := 107) rfl rfl
theorem k_5_77 : (Jvm.Cond.methodLink "StaveHouse$Part" (181 : Nat) ({ cls := "java/lang/Math", name := "max", desc := "(II)I" } : Jvm.MethodName)) ∈ wAll := wA_5 (j := 77) rfl rfl
theorem k_5_138 : (Jvm.Cond.fieldLink "StaveHouse$Part" (206 : Nat) "StaveHouse$Part" "LOWEST_LINES" "[I") ∈ wAll := wA_5 (j := 138) rfl rfl
theorem k_4_121 : (Jvm.Cond.fieldLink "StaveHouse$Part" (209 : Nat) "StaveHouse$Part" "clef" "I") ∈ wAll := wA_4 (j := 121) rfl rfl
theorem k_5_92 : (Jvm.Cond.code ({ cls := "StaveHouse", name := "beatCount", desc := "(II)I" } : Jvm.MethodName) prog_1_method_39_code (2 : Nat) (Option.some Jvm.ClassFile.FieldType.int)) ∈ wAll := wA_5 (j := 92) rfl rfl
theorem k_1_1 : (Jvm.Cond.initialized "StaveHouse") ∈ wAll := wA_1 (j := 1) rfl rfl
theorem k_5_91 : (Jvm.Cond.static ({ cls := "StaveHouse", name := "beatCount", desc := "(II)I" } : Jvm.MethodName)) ∈ wAll := wA_5 (j := 91) rfl rfl
theorem k_5_153 : (Jvm.Cond.methodLink "StaveHouse$Part" (218 : Nat) ({ cls := "StaveHouse$Part", name := "isBeamed", desc := "(I)Z" } : Jvm.MethodName)) ∈ wAll := wA_5 (j := 153) rfl rfl
theorem k_5_155 : (Jvm.Cond.instanceMethod ({ cls := "StaveHouse$Part", name := "isBeamed", desc := "(I)Z" } : Jvm.MethodName)) ∈ wAll := wA_5 (j := 155) rfl rfl
theorem ks_62 : (Jvm.Cond.selects "StaveHouse$Part" ({ cls := "StaveHouse$Part", name := "isBeamed", desc := "(I)Z" } : Jvm.MethodName) ({ cls := "StaveHouse$Part", name := "isBeamed", desc := "(I)Z" } : Jvm.MethodName)) ∈ wAll := wA_s (j := 62) rfl rfl
theorem k_5_156 : (Jvm.Cond.code ({ cls := "StaveHouse$Part", name := "isBeamed", desc := "(I)Z" } : Jvm.MethodName) prog_6_method_22_code (2 : Nat) (Option.some Jvm.ClassFile.FieldType.boolean)) ∈ wAll := wA_5 (j := 156) rfl rfl
theorem k_5_140 : (Jvm.Cond.methodLink "StaveHouse$Part" (215 : Nat) ({ cls := "StaveHouse$Part", name := "leastHeight", desc := "(I)I" } : Jvm.MethodName)) ∈ wAll := wA_5 (j := 140) rfl rfl
theorem k_5_142 : (Jvm.Cond.instanceMethod ({ cls := "StaveHouse$Part", name := "leastHeight", desc := "(I)I" } : Jvm.MethodName)) ∈ wAll := wA_5 (j := 142) rfl rfl
theorem ks_60 : (Jvm.Cond.selects "StaveHouse$Part" ({ cls := "StaveHouse$Part", name := "leastHeight", desc := "(I)I" } : Jvm.MethodName) ({ cls := "StaveHouse$Part", name := "leastHeight", desc := "(I)I" } : Jvm.MethodName)) ∈ wAll := wA_s (j := 60) rfl rfl
theorem k_5_143 : (Jvm.Cond.code ({ cls := "StaveHouse$Part", name := "leastHeight", desc := "(I)I" } : Jvm.MethodName) prog_6_method_19_code (2 : Nat) (Option.some Jvm.ClassFile.FieldType.int)) ∈ wAll := wA_5 (j := 143) rfl rfl
theorem k_5_134 : (Jvm.Cond.methodLink "StaveHouse$Part" (212 : Nat) ({ cls := "StaveHouse$Part", name := "greatestHeight", desc := "(I)I" } : Jvm.MethodName)) ∈ wAll := wA_5 (j := 134) rfl rfl
theorem k_5_136 : (Jvm.Cond.instanceMethod ({ cls := "StaveHouse$Part", name := "greatestHeight", desc := "(I)I" } : Jvm.MethodName)) ∈ wAll := wA_5 (j := 136) rfl rfl
theorem ks_59 : (Jvm.Cond.selects "StaveHouse$Part" ({ cls := "StaveHouse$Part", name := "greatestHeight", desc := "(I)I" } : Jvm.MethodName) ({ cls := "StaveHouse$Part", name := "greatestHeight", desc := "(I)I" } : Jvm.MethodName)) ∈ wAll := wA_s (j := 59) rfl rfl
theorem k_5_137 : (Jvm.Cond.code ({ cls := "StaveHouse$Part", name := "greatestHeight", desc := "(I)I" } : Jvm.MethodName) prog_6_method_20_code (3 : Nat) (Option.some Jvm.ClassFile.FieldType.int)) ∈ wAll := wA_5 (j := 137) rfl rfl
theorem k_2_69 : (Jvm.Cond.lays "StaveHouse$Event" "StaveHouse$Event" "place" "J") ∈ wAll := wA_2 (j := 69) rfl rfl
theorem k_2_71 : (Jvm.Cond.lays "StaveHouse$Event" "StaveHouse$Event" "length" "J") ∈ wAll := wA_2 (j := 71) rfl rfl
theorem k_2_73 : (Jvm.Cond.lays "StaveHouse$Event" "StaveHouse$Event" "value" "I") ∈ wAll := wA_2 (j := 73) rfl rfl
theorem k_2_75 : (Jvm.Cond.lays "StaveHouse$Event" "StaveHouse$Event" "tupletFirst" "I") ∈ wAll := wA_2 (j := 75) rfl rfl
theorem k_2_77 : (Jvm.Cond.lays "StaveHouse$Event" "StaveHouse$Event" "tupletSecond" "I") ∈ wAll := wA_2 (j := 77) rfl rfl
theorem k_2_79 : (Jvm.Cond.lays "StaveHouse$Event" "StaveHouse$Event" "bracket" "I") ∈ wAll := wA_2 (j := 79) rfl rfl
theorem k_2_81 : (Jvm.Cond.lays "StaveHouse$Event" "StaveHouse$Event" "bracketPlace" "I") ∈ wAll := wA_2 (j := 81) rfl rfl
theorem k_2_83 : (Jvm.Cond.lays "StaveHouse$Event" "StaveHouse$Event" "marks" "I") ∈ wAll := wA_2 (j := 83) rfl rfl
theorem k_2_85 : (Jvm.Cond.lays "StaveHouse$Event" "StaveHouse$Event" "loud" "I") ∈ wAll := wA_2 (j := 85) rfl rfl
theorem k_2_87 : (Jvm.Cond.lays "StaveHouse$Event" "StaveHouse$Event" "token" "I") ∈ wAll := wA_2 (j := 87) rfl rfl
theorem k_2_89 : (Jvm.Cond.lays "StaveHouse$Event" "StaveHouse$Event" "count" "I") ∈ wAll := wA_2 (j := 89) rfl rfl
theorem k_2_91 : (Jvm.Cond.lays "StaveHouse$Event" "StaveHouse$Event" "slurred" "Z") ∈ wAll := wA_2 (j := 91) rfl rfl
theorem k_2_93 : (Jvm.Cond.laysFinal "StaveHouse$Event" "StaveHouse$Event" "steps" "[I") ∈ wAll := wA_2 (j := 93) rfl rfl
theorem k_2_95 : (Jvm.Cond.laysFinal "StaveHouse$Event" "StaveHouse$Event" "alterations" "[I") ∈ wAll := wA_2 (j := 95) rfl rfl
theorem k_4_153 : (Jvm.Cond.lays "StaveHouse$Part" "StaveHouse$Part" "word" "J") ∈ wAll := wA_4 (j := 153) rfl rfl
theorem k_4_155 : (Jvm.Cond.lays "StaveHouse$Part" "StaveHouse$Part" "clef" "I") ∈ wAll := wA_4 (j := 155) rfl rfl
theorem k_4_157 : (Jvm.Cond.lays "StaveHouse$Part" "StaveHouse$Part" "number" "I") ∈ wAll := wA_4 (j := 157) rfl rfl
theorem k_4_159 : (Jvm.Cond.lays "StaveHouse$Part" "StaveHouse$Part" "token" "I") ∈ wAll := wA_4 (j := 159) rfl rfl
theorem k_4_161 : (Jvm.Cond.lays "StaveHouse$Part" "StaveHouse$Part" "root" "I") ∈ wAll := wA_4 (j := 161) rfl rfl
theorem k_4_163 : (Jvm.Cond.laysFinal "StaveHouse$Part" "StaveHouse$Part" "events" "[LStaveHouse$Event;") ∈ wAll := wA_4 (j := 163) rfl rfl
theorem k_4_165 : (Jvm.Cond.lays "StaveHouse$Part" "StaveHouse$Part" "eventCount" "I") ∈ wAll := wA_4 (j := 165) rfl rfl
theorem k_4_167 : (Jvm.Cond.lays "StaveHouse$Part" "StaveHouse$Part" "endPlace" "J") ∈ wAll := wA_4 (j := 167) rfl rfl
theorem k_4_169 : (Jvm.Cond.laysFinal "StaveHouse$Part" "StaveHouse$Part" "notes" "[[I") ∈ wAll := wA_4 (j := 169) rfl rfl
theorem k_4_171 : (Jvm.Cond.laysFinal "StaveHouse$Part" "StaveHouse$Part" "notePlaces" "[J") ∈ wAll := wA_4 (j := 171) rfl rfl
theorem k_4_173 : (Jvm.Cond.lays "StaveHouse$Part" "StaveHouse$Part" "noteCount" "I") ∈ wAll := wA_4 (j := 173) rfl rfl
theorem k_4_175 : (Jvm.Cond.lays "StaveHouse$Part" "StaveHouse$Part" "tooManyNotes" "Z") ∈ wAll := wA_4 (j := 175) rfl rfl
theorem k_4_177 : (Jvm.Cond.laysFinal "StaveHouse$Part" "StaveHouse$Part" "known" "[I") ∈ wAll := wA_4 (j := 177) rfl rfl
theorem k_1_209 : (Jvm.Cond.lays "StaveHouse$Walker" "StaveHouse$Walker" "tree" "LStaveHouse$Parser;") ∈ wAll := wA_1 (j := 209) rfl rfl
theorem k_1_211 : (Jvm.Cond.lays "StaveHouse$Walker" "StaveHouse$Walker" "part" "LStaveHouse$Part;") ∈ wAll := wA_1 (j := 211) rfl rfl
theorem k_1_213 : (Jvm.Cond.lays "StaveHouse$Walker" "StaveHouse$Walker" "wrong" "I") ∈ wAll := wA_1 (j := 213) rfl rfl
theorem k_1_215 : (Jvm.Cond.lays "StaveHouse$Walker" "StaveHouse$Walker" "gone" "I") ∈ wAll := wA_1 (j := 215) rfl rfl
theorem k_1_217 : (Jvm.Cond.lays "StaveHouse$Walker" "StaveHouse$Walker" "loud" "I") ∈ wAll := wA_1 (j := 217) rfl rfl
theorem k_1_219 : (Jvm.Cond.lays "StaveHouse$Walker" "StaveHouse$Walker" "backs" "I") ∈ wAll := wA_1 (j := 219) rfl rfl
theorem k_1_221 : (Jvm.Cond.lays "StaveHouse$Walker" "StaveHouse$Walker" "brackets" "I") ∈ wAll := wA_1 (j := 221) rfl rfl
theorem k_1_223 : (Jvm.Cond.lays "StaveHouse$Walker" "StaveHouse$Walker" "bracket" "I") ∈ wAll := wA_1 (j := 223) rfl rfl
theorem k_1_225 : (Jvm.Cond.lays "StaveHouse$Walker" "StaveHouse$Walker" "bracketPlace" "I") ∈ wAll := wA_1 (j := 225) rfl rfl
theorem k_1_227 : (Jvm.Cond.lays "StaveHouse$Walker" "StaveHouse$Walker" "tupletFirst" "I") ∈ wAll := wA_1 (j := 227) rfl rfl
theorem k_1_229 : (Jvm.Cond.lays "StaveHouse$Walker" "StaveHouse$Walker" "tupletSecond" "I") ∈ wAll := wA_1 (j := 229) rfl rfl
theorem k_1_231 : (Jvm.Cond.lays "StaveHouse$Walker" "StaveHouse$Walker" "come" "J") ∈ wAll := wA_1 (j := 231) rfl rfl
theorem k_1_233 : (Jvm.Cond.lays "StaveHouse$Walker" "StaveHouse$Walker" "farthest" "J") ∈ wAll := wA_1 (j := 233) rfl rfl
theorem k_1_235 : (Jvm.Cond.lays "StaveHouse$Walker" "StaveHouse$Walker" "bar" "J") ∈ wAll := wA_1 (j := 235) rfl rfl
theorem k_1_237 : (Jvm.Cond.laysFinal "StaveHouse$Walker" "StaveHouse$Walker" "powers" "[I") ∈ wAll := wA_1 (j := 237) rfl rfl
theorem k_1_239 : (Jvm.Cond.laysFinal "StaveHouse$Walker" "StaveHouse$Walker" "carrySigns" "[I") ∈ wAll := wA_1 (j := 239) rfl rfl
theorem k_2_1 : (Jvm.Cond.laysFinal "StaveHouse$Walker" "StaveHouse$Walker" "carrySteps" "[I") ∈ wAll := wA_2 (j := 1) rfl rfl
theorem k_2_3 : (Jvm.Cond.laysFinal "StaveHouse$Walker" "StaveHouse$Walker" "carryTones" "[I") ∈ wAll := wA_2 (j := 3) rfl rfl
theorem k_2_5 : (Jvm.Cond.lays "StaveHouse$Walker" "StaveHouse$Walker" "carries" "I") ∈ wAll := wA_2 (j := 5) rfl rfl
theorem W_prog_8_method_4_code_0 : chW prog_8_method_4_code 0 [3, 62, 29, 42, 180, 0, 17, 162, 0, 25, 42, 180, 0, 11, 29, 50, 180, 0, 68, 31, 148, 154, 0, 5, 4, 172, 132, 3, 1, 167, 255, 229, 3, 172] := chW_of (by decide +kernel)
theorem W_prog_8_method_4_code_32 : chW prog_8_method_4_code 32 [3, 172] := chW_of (by decide +kernel)
theorem d_8_4_26 : decode prog_8_method_4_code 26 = .ok (.iinc 3 1, 3) := D_132 W_prog_8_method_4_code_0 26 rfl rfl rfl
theorem W_prog_6_method_2_code_0 : chW prog_6_method_2_code 0 [42, 3, 181, 0, 31, 42, 3, 181, 0, 35, 42, 9, 181, 0, 38, 177] := chW_of (by decide +kernel)
theorem W_prog_8_method_5_code_0 : chW prog_8_method_5_code 0 [20, 0, 72, 42, 180, 0, 30, 4, 184, 0, 74, 133, 109, 42, 180, 0, 27, 133, 105, 173] := chW_of (by decide +kernel)
theorem W_prog_13_method_3_code_0 : chW prog_13_method_3_code 0 [42, 180, 0, 32, 154, 0, 13, 42, 27, 16, 16, 28, 104, 96, 181, 0, 32, 177] := chW_of (by decide +kernel)
theorem W_prog_13_method_12_code_0 : chW prog_13_method_12_code 0 [27, 61, 3, 62, 29, 178, 0, 145, 190, 162, 0, 48, 42, 180, 0, 9, 29, 46, 54, 4, 21, 4, 156, 0, 29, 28, 178, 0, 145, 29, 46, 112, 153, 0, 5, 2] := chW_of (by decide +kernel)
theorem W_prog_13_method_12_code_32 : chW prog_13_method_12_code 32 [153, 0, 5, 2, 172, 28, 178, 0, 145, 29, 46, 108, 61, 132, 4, 1, 167, 255, 228, 132, 3, 1, 167, 255, 206, 3, 62, 29, 178, 0, 145, 190, 162, 0, 46, 3] := chW_of (by decide +kernel)
theorem d_13_12_51 : decode prog_13_method_12_code 51 = .ok (.iinc 3 1, 3) := D_132 W_prog_13_method_12_code_32 19 rfl rfl rfl
theorem d_13_12_45 : decode prog_13_method_12_code 45 = .ok (.iinc 4 1, 3) := D_132 W_prog_13_method_12_code_32 13 rfl rfl rfl
theorem W_prog_13_method_12_code_64 : chW prog_13_method_12_code 64 [162, 0, 46, 3, 54, 4, 21, 4, 42, 180, 0, 9, 29, 46, 162, 0, 26, 28, 178, 0, 145, 29, 46, 104, 61, 28, 17, 4, 0, 164, 0, 5, 2, 172, 132, 4] := chW_of (by decide +kernel)
theorem W_prog_13_method_12_code_96 : chW prog_13_method_12_code 96 [2, 172, 132, 4, 1, 167, 255, 225, 132, 3, 1, 167, 255, 208, 28, 17, 4, 0, 164, 0, 7, 2, 167, 0, 4, 28, 172] := chW_of (by decide +kernel)
theorem d_13_12_104 : decode prog_13_method_12_code 104 = .ok (.iinc 3 1, 3) := D_132 W_prog_13_method_12_code_96 8 rfl rfl rfl
theorem d_13_12_98 : decode prog_13_method_12_code 98 = .ok (.iinc 4 1, 3) := D_132 W_prog_13_method_12_code_96 2 rfl rfl rfl
theorem W_prog_3_method_5_code_0 : chW prog_3_method_5_code 0 [42, 180, 0, 18, 16, 6, 161, 0, 5, 3, 172, 42, 180, 0, 18, 62, 42, 180, 0, 18, 4, 100, 54, 4, 21, 4, 155, 0, 23, 42, 180, 0, 9, 21, 4, 46] := chW_of (by decide +kernel)
theorem W_prog_3_method_5_code_32 : chW prog_3_method_5_code 32 [9, 21, 4, 46, 27, 161, 0, 12, 21, 4, 62, 132, 4, 255, 167, 255, 234, 29, 42, 180, 0, 18, 162, 0, 15, 42, 180, 0, 9, 29, 46, 27, 160, 0, 5, 3] := chW_of (by decide +kernel)
theorem d_3_5_43 : decode prog_3_method_5_code 43 = .ok (.iinc 4 (-1), 3) := D_132 W_prog_3_method_5_code_32 11 rfl rfl rfl
theorem W_prog_3_method_5_code_64 : chW prog_3_method_5_code 64 [160, 0, 5, 3, 172, 42, 180, 0, 18, 54, 4, 21, 4, 29, 164, 0, 41, 42, 180, 0, 9, 21, 4, 42, 180, 0, 9, 21, 4, 4, 100, 46, 79, 42, 180, 0] := chW_of (by decide +kernel)
theorem W_prog_3_method_5_code_96 : chW prog_3_method_5_code 96 [79, 42, 180, 0, 15, 21, 4, 42, 180, 0, 15, 21, 4, 4, 100, 46, 79, 132, 4, 255, 167, 255, 215, 42, 180, 0, 9, 29, 27, 79, 42, 180, 0, 15, 29, 28] := chW_of (by decide +kernel)
theorem W_prog_3_method_5_code_128 : chW prog_3_method_5_code 128 [0, 15, 29, 28, 79, 42, 89, 180, 0, 18, 4, 96, 181, 0, 18, 4, 172] := chW_of (by decide +kernel)
theorem d_3_5_113 : decode prog_3_method_5_code 113 = .ok (.iinc 4 (-1), 3) := D_132 W_prog_3_method_5_code_96 17 rfl rfl rfl
theorem W_prog_3_method_3_code_0 : chW prog_3_method_3_code 0 [42, 180, 0, 22, 27, 126, 153, 0, 7, 4, 167, 0, 4, 3, 172] := chW_of (by decide +kernel)
theorem W_prog_13_method_11_code_0 : chW prog_13_method_11_code 0 [27, 62, 3, 54, 4, 21, 4, 178, 0, 145, 190, 162, 0, 55, 3, 54, 5, 21, 5, 7, 162, 0, 40, 29, 178, 0, 145, 21, 4, 46, 112, 154, 0, 29, 29, 178] := chW_of (by decide +kernel)
theorem W_prog_13_method_11_code_64 : chW prog_13_method_11_code 64 [255, 198, 177] := chW_of (by decide +kernel)
theorem W_prog_13_method_11_code_32 : chW prog_13_method_11_code 32 [0, 29, 29, 178, 0, 145, 21, 4, 46, 108, 62, 42, 180, 0, 9, 21, 4, 92, 46, 28, 96, 79, 132, 5, 1, 167, 255, 216, 132, 4, 1, 167, 255, 198, 177] := chW_of (by decide +kernel)
theorem d_13_11_54 : decode prog_13_method_11_code 54 = .ok (.iinc 5 1, 3) := D_132 W_prog_13_method_11_code_32 22 rfl rfl rfl
theorem d_13_11_60 : decode prog_13_method_11_code 60 = .ok (.iinc 4 1, 3) := D_132 W_prog_13_method_11_code_32 28 rfl rfl rfl
theorem W_prog_6_method_5_code_0 : chW prog_6_method_5_code 0 [42, 9, 181, 0, 38, 3, 60, 27, 42, 180, 0, 31, 162, 0, 40, 42, 180, 0, 11, 27, 50, 42, 180, 0, 38, 181, 0, 84, 42, 89, 180, 0, 38, 42, 180, 0] := chW_of (by decide +kernel)
theorem W_prog_6_method_5_code_32 : chW prog_6_method_5_code 32 [38, 42, 180, 0, 11, 27, 50, 180, 0, 87, 97, 181, 0, 38, 132, 1, 1, 167, 255, 214, 177] := chW_of (by decide +kernel)
theorem d_6_5_46 : decode prog_6_method_5_code 46 = .ok (.iinc 1 1, 3) := D_132 W_prog_6_method_5_code_32 14 rfl rfl rfl
theorem W_prog_6_method_6_code_0 : chW prog_6_method_6_code 0 [42, 180, 0, 11, 27, 50, 180, 0, 90, 54, 4, 21, 4, 153, 0, 29, 27, 158, 0, 19, 42, 180, 0, 11, 27, 4, 100, 50, 180, 0, 90, 21, 4, 159, 0, 9] := chW_of (by decide +kernel)
theorem W_prog_6_method_6_code_32 : chW prog_6_method_6_code 32 [4, 159, 0, 9, 32, 9, 148, 157, 0, 5, 4, 172, 42, 180, 0, 11, 27, 50, 180, 0, 84, 55, 5, 22, 5, 55, 7, 27, 54, 9, 21, 9, 42, 180, 0, 31] := chW_of (by decide +kernel)
theorem W_prog_6_method_6_code_64 : chW prog_6_method_6_code 64 [42, 180, 0, 31, 162, 0, 39, 42, 180, 0, 11, 21, 9, 50, 180, 0, 90, 21, 4, 160, 0, 24, 22, 7, 42, 180, 0, 11, 21, 9, 50, 180, 0, 87, 97, 55] := chW_of (by decide +kernel)
theorem W_prog_6_method_6_code_96 : chW prog_6_method_6_code 96 [0, 87, 97, 55, 7, 132, 9, 1, 167, 255, 214, 22, 5, 32, 109, 22, 7, 10, 101, 32, 109, 148, 154, 0, 21, 22, 7, 22, 5, 101, 20, 0, 93, 113, 9, 148] := chW_of (by decide +kernel)
theorem d_6_6_101 : decode prog_6_method_6_code 101 = .ok (.iinc 9 1, 3) := D_132 W_prog_6_method_6_code_96 5 rfl rfl rfl
theorem W_prog_6_method_6_code_128 : chW prog_6_method_6_code 128 [93, 113, 9, 148, 154, 0, 7, 4, 167, 0, 4, 3, 172] := chW_of (by decide +kernel)
theorem W_prog_3_method_6_code_0 : chW prog_3_method_6_code 0 [3, 62, 29, 42, 180, 0, 18, 162, 0, 31, 42, 180, 0, 9, 29, 46, 27, 160, 0, 15, 42, 180, 0, 15, 29, 46, 28, 160, 0, 5, 4, 172, 132, 3, 1, 167] := chW_of (by decide +kernel)
theorem W_prog_3_method_6_code_32 : chW prog_3_method_6_code 32 [132, 3, 1, 167, 255, 223, 3, 172] := chW_of (by decide +kernel)
theorem d_3_6_32 : decode prog_3_method_6_code 32 = .ok (.iinc 3 1, 3) := D_132 W_prog_3_method_6_code_32 0 rfl rfl rfl
theorem W_prog_1_method_40_code_0 : chW prog_1_method_40_code 0 [17, 2, 0, 26, 6, 108, 122, 178, 1, 99, 5, 26, 6, 112, 100, 46, 104, 7, 108, 172] := chW_of (by decide +kernel)
theorem W_prog_6_method_13_code_0 : chW prog_6_method_13_code 0 [42, 180, 0, 35, 17, 3, 32, 161, 0, 9, 42, 4, 181, 0, 81, 177, 42, 180, 0, 35, 54, 6, 42, 180, 0, 19, 3, 50, 21, 6, 27, 79, 42, 180, 0, 19] := chW_of (by decide +kernel)
theorem W_prog_6_method_13_code_32 : chW prog_6_method_13_code 32 [42, 180, 0, 19, 4, 50, 21, 6, 28, 79, 42, 180, 0, 22, 21, 6, 33, 80, 42, 180, 0, 19, 7, 50, 21, 6, 21, 5, 6, 108, 79, 42, 180, 0, 19, 8] := chW_of (by decide +kernel)
theorem W_prog_6_method_13_code_64 : chW prog_6_method_13_code 64 [180, 0, 19, 8, 50, 21, 6, 5, 21, 5, 6, 112, 100, 79, 42, 89, 180, 0, 35, 4, 96, 181, 0, 35, 177] := chW_of (by decide +kernel)
theorem W_prog_3_method_2_code_0 : chW prog_3_method_2_code 0 [42, 180, 0, 18, 154, 0, 7, 4, 167, 0, 4, 3, 172] := chW_of (by decide +kernel)
theorem W_prog_1_method_39_code_0 : chW prog_1_method_39_code 0 [27, 16, 8, 161, 0, 11, 26, 6, 112, 154, 0, 5, 6, 172, 27, 7, 163, 0, 7, 4, 167, 0, 4, 5, 172] := chW_of (by decide +kernel)
theorem W_prog_1_method_43_code_0 : chW prog_1_method_43_code 0 [29, 153, 0, 8, 29, 26, 160, 0, 6, 16, 9, 172, 26, 5, 28, 104, 112, 154, 0, 13, 5, 29, 104, 26, 160, 0, 6, 16, 8, 172, 29, 27, 112, 154, 0, 6] := chW_of (by decide +kernel)
theorem W_prog_1_method_43_code_32 : chW prog_1_method_43_code 32 [112, 154, 0, 6, 16, 7, 172, 3, 54, 4, 21, 4, 8, 162, 0, 24, 29, 28, 21, 4, 122, 112, 154, 0, 9, 16, 6, 21, 4, 100, 172, 132, 4, 1, 167, 255] := chW_of (by decide +kernel)
theorem W_prog_1_method_43_code_64 : chW prog_1_method_43_code 64 [4, 1, 167, 255, 232, 4, 172] := chW_of (by decide +kernel)
theorem d_1_43_63 : decode prog_1_method_43_code 63 = .ok (.iinc 4 1, 3) := D_132 W_prog_1_method_43_code_32 31 rfl rfl rfl
theorem W_prog_1_method_44_code_0 : chW prog_1_method_44_code 0 [26, 5, 28, 104, 112, 154, 0, 21, 5, 29, 104, 26, 162, 0, 14, 26, 5, 21, 4, 104, 162, 0, 6, 16, 8, 172, 21, 4, 4, 100, 27, 108, 27, 104, 29, 164] := chW_of (by decide +kernel)
theorem W_prog_1_method_44_code_32 : chW prog_1_method_44_code 32 [27, 104, 29, 164, 0, 6, 16, 7, 172, 3, 54, 5, 21, 5, 8, 162, 0, 35, 28, 21, 5, 122, 54, 6, 21, 4, 4, 100, 21, 6, 108, 21, 6, 104, 29, 164] := chW_of (by decide +kernel)
theorem W_prog_1_method_44_code_64 : chW prog_1_method_44_code 64 [6, 104, 29, 164, 0, 9, 16, 6, 21, 5, 100, 172, 132, 5, 1, 167, 255, 221, 4, 172] := chW_of (by decide +kernel)
theorem d_1_44_76 : decode prog_1_method_44_code 76 = .ok (.iinc 5 1, 3) := D_132 W_prog_1_method_44_code_64 12 rfl rfl rfl
theorem W_prog_6_method_14_code_0 : chW prog_6_method_14_code 0 [42, 180, 0, 19, 3, 50, 27, 46, 61, 28, 155, 0, 23, 28, 42, 180, 0, 31, 162, 0, 15, 42, 180, 0, 11, 28, 50, 180, 0, 188, 154, 0, 7, 4, 167, 0] := chW_of (by decide +kernel)
theorem W_prog_6_method_14_code_32 : chW prog_6_method_14_code 32 [7, 4, 167, 0, 4, 3, 172] := chW_of (by decide +kernel)
theorem W_prog_6_method_15_code_0 : chW prog_6_method_15_code 0 [27, 158, 0, 36, 27, 42, 180, 0, 35, 162, 0, 28, 42, 180, 0, 19, 3, 50, 27, 46, 42, 180, 0, 19, 3, 50, 27, 4, 100, 46, 160, 0, 7, 4, 167, 0] := chW_of (by decide +kernel)
theorem W_prog_6_method_15_code_32 : chW prog_6_method_15_code 32 [7, 4, 167, 0, 4, 3, 172] := chW_of (by decide +kernel)
theorem W_prog_1_method_38_code_0 : chW prog_1_method_38_code 0 [178, 1, 96, 27, 16, 7, 184, 1, 93, 46, 61, 26, 158, 0, 14, 28, 26, 162, 0, 7, 4, 167, 0, 4, 3, 172, 16, 6, 28, 100, 26, 116, 162, 0, 7, 2] := chW_of (by decide +kernel)
theorem W_prog_1_method_38_code_32 : chW prog_1_method_38_code 32 [162, 0, 7, 2, 167, 0, 4, 3, 172] := chW_of (by decide +kernel)
theorem W_prog_6_method_8_code_0 : chW prog_6_method_8_code 0 [42, 180, 0, 11, 27, 50, 78, 27, 158, 0, 48, 42, 180, 0, 11, 27, 4, 100, 50, 4, 182, 0, 45, 153, 0, 33, 42, 180, 0, 11, 27, 4, 100, 50, 45, 180] := chW_of (by decide +kernel)
theorem W_prog_6_method_8_code_32 : chW prog_6_method_8_code 32 [100, 50, 45, 180, 0, 99, 28, 46, 45, 180, 0, 102, 28, 46, 182, 0, 105, 153, 0, 7, 4, 167, 0, 4, 3, 172] := chW_of (by decide +kernel)
theorem W_prog_6_method_20_code_0 : chW prog_6_method_20_code 0 [42, 180, 0, 11, 42, 180, 0, 19, 3, 50, 27, 46, 50, 77, 44, 180, 0, 99, 44, 180, 0, 188, 4, 100, 3, 184, 0, 181, 46, 178, 0, 206, 42, 180, 0, 209] := chW_of (by decide +kernel)
theorem W_prog_6_method_20_code_32 : chW prog_6_method_20_code 32 [42, 180, 0, 209, 46, 100, 172] := chW_of (by decide +kernel)
theorem W_prog_6_method_19_code_0 : chW prog_6_method_19_code 0 [42, 180, 0, 11, 42, 180, 0, 19, 3, 50, 27, 46, 50, 180, 0, 99, 3, 46, 178, 0, 206, 42, 180, 0, 209, 46, 100, 172] := chW_of (by decide +kernel)
theorem W_prog_8_method_6_code_0 : chW prog_8_method_6_code 0 [20, 0, 72, 42, 180, 0, 30, 4, 184, 0, 74, 133, 109, 42, 180, 0, 27, 42, 180, 0, 30, 184, 0, 77, 133, 105, 173] := chW_of (by decide +kernel)
theorem W_prog_6_method_22_code_0 : chW prog_6_method_22_code 0 [42, 27, 182, 0, 191, 154, 0, 19, 42, 180, 0, 19, 7, 50, 27, 46, 6, 161, 0, 7, 4, 167, 0, 4, 3, 172] := chW_of (by decide +kernel)
theorem W_prog_6_method_23_code_0 : chW prog_6_method_23_code 0 [28, 42, 180, 0, 35, 162, 0, 54, 42, 28, 182, 0, 218, 153, 0, 46, 42, 180, 0, 19, 4, 50, 27, 46, 42, 180, 0, 19, 4, 50, 28, 46, 160, 0, 27, 42] := chW_of (by decide +kernel)
theorem W_prog_6_method_23_code_32 : chW prog_6_method_23_code 32 [160, 0, 27, 42, 180, 0, 22, 27, 47, 33, 109, 42, 180, 0, 22, 28, 47, 33, 109, 148, 154, 0, 7, 4, 167, 0, 4, 3, 172] := chW_of (by decide +kernel)
theorem W_prog_6_method_25_code_0 : chW prog_6_method_25_code 0 [3, 60, 3, 61, 28, 17, 3, 32, 162, 0, 203, 27, 42, 180, 0, 35, 162, 0, 195, 4, 62, 42, 180, 0, 19, 16, 9, 50, 27, 46, 2, 159, 0, 42, 27, 29] := chW_of (by decide +kernel)
theorem W_prog_6_method_25_code_32 : chW prog_6_method_25_code 32 [0, 42, 27, 29, 96, 42, 180, 0, 35, 162, 0, 32, 42, 180, 0, 19, 16, 9, 50, 27, 29, 96, 46, 42, 180, 0, 19, 16, 9, 50, 27, 46, 160, 0, 9, 132] := chW_of (by decide +kernel)
theorem W_prog_6_method_25_code_64 : chW prog_6_method_25_code 64 [160, 0, 9, 132, 3, 1, 167, 255, 207, 3, 54, 4, 27, 54, 5, 21, 5, 27, 29, 96, 162, 0, 43, 21, 4, 42, 21, 5, 182, 0, 191, 153, 0, 7, 3, 167] := chW_of (by decide +kernel)
theorem d_6_25_67 : decode prog_6_method_25_code 67 = .ok (.iinc 3 1, 3) := D_132 W_prog_6_method_25_code_64 3 rfl rfl rfl
theorem W_prog_6_method_25_code_96 : chW prog_6_method_25_code 96 [0, 7, 3, 167, 0, 19, 42, 21, 5, 182, 0, 215, 42, 21, 5, 182, 0, 212, 96, 16, 8, 100, 96, 54, 4, 132, 5, 1, 167, 255, 211, 27, 54, 5, 21, 5] := chW_of (by decide +kernel)
theorem W_prog_6_method_25_code_128 : chW prog_6_method_25_code 128 [54, 5, 21, 5, 27, 29, 96, 162, 0, 66, 42, 21, 5, 182, 0, 191, 154, 0, 15, 42, 180, 0, 19, 7, 50, 21, 5, 46, 154, 0, 7, 4, 167, 0, 4, 3] := chW_of (by decide +kernel)
theorem d_6_25_121 : decode prog_6_method_25_code 121 = .ok (.iinc 5 1, 3) := D_132 W_prog_6_method_25_code_96 25 rfl rfl rfl
theorem W_prog_6_method_25_code_192 : chW prog_6_method_25_code 192 [4, 5, 79, 132, 5, 1, 167, 255, 188, 27, 29, 96, 60, 132, 2, 1, 167, 255, 52, 177] := chW_of (by decide +kernel)
theorem d_6_25_205 : decode prog_6_method_25_code 205 = .ok (.iinc 2 1, 3) := D_132 W_prog_6_method_25_code_192 13 rfl rfl rfl
theorem W_prog_6_method_25_code_160 : chW prog_6_method_25_code 160 [167, 0, 4, 3, 54, 6, 42, 180, 0, 19, 16, 11, 50, 21, 5, 21, 6, 153, 0, 7, 3, 167, 0, 13, 21, 4, 156, 0, 7, 4, 167, 0, 4, 5, 79, 132] := chW_of (by decide +kernel)
theorem d_6_25_195 : decode prog_6_method_25_code 195 = .ok (.iinc 5 1, 3) := D_132 W_prog_6_method_25_code_192 3 rfl rfl rfl
set_option maxRecDepth 20000 in
theorem inW_1 : ∀ w ∈ u_ws RX1 TX1 14, w ∈ wAll := by
  show ∀ w ∈ [(Jvm.Cond.lays "StaveHouse$Event" "StaveHouse$Event" "place" "J"), (Jvm.Cond.lays "StaveHouse$Event" "StaveHouse$Event" "length" "J"), (Jvm.Cond.lays "StaveHouse$Event" "StaveHouse$Event" "value" "I"), (Jvm.Cond.lays "StaveHouse$Event" "StaveHouse$Event" "tupletFirst" "I"), (Jvm.Cond.lays "StaveHouse$Event" "StaveHouse$Event" "tupletSecond" "I"), (Jvm.Cond.lays "StaveHouse$Event" "StaveHouse$Event" "bracket" "I"), (Jvm.Cond.lays "StaveHouse$Event" "StaveHouse$Event" "bracketPlace" "I"), (Jvm.Cond.lays "StaveHouse$Event" "StaveHouse$Event" "marks" "I"), (Jvm.Cond.lays "StaveHouse$Event" "StaveHouse$Event" "loud" "I"), (Jvm.Cond.lays "StaveHouse$Event" "StaveHouse$Event" "token" "I"), (Jvm.Cond.lays "StaveHouse$Event" "StaveHouse$Event" "count" "I"), (Jvm.Cond.lays "StaveHouse$Event" "StaveHouse$Event" "slurred" "Z"), (Jvm.Cond.laysFinal "StaveHouse$Event" "StaveHouse$Event" "steps" "[I"), (Jvm.Cond.laysFinal "StaveHouse$Event" "StaveHouse$Event" "alterations" "[I")], w ∈ wAll
  exact List.forall_mem_cons.mpr ⟨k_2_69, List.forall_mem_cons.mpr ⟨k_2_71, List.forall_mem_cons.mpr ⟨k_2_73, List.forall_mem_cons.mpr ⟨k_2_75, List.forall_mem_cons.mpr ⟨k_2_77, List.forall_mem_cons.mpr ⟨k_2_79, List.forall_mem_cons.mpr ⟨k_2_81, List.forall_mem_cons.mpr ⟨k_2_83, List.forall_mem_cons.mpr ⟨k_2_85, List.forall_mem_cons.mpr ⟨k_2_87, List.forall_mem_cons.mpr ⟨k_2_89, List.forall_mem_cons.mpr ⟨k_2_91, List.forall_mem_cons.mpr ⟨k_2_93, List.forall_mem_cons.mpr ⟨k_2_95, fun _ h => absurd h List.not_mem_nil⟩⟩⟩⟩⟩⟩⟩⟩⟩⟩⟩⟩⟩⟩
set_option maxRecDepth 20000 in
theorem inW_4 : ∀ w ∈ u_ws RX4 TX4 13, w ∈ wAll := by
  show ∀ w ∈ [(Jvm.Cond.lays "StaveHouse$Part" "StaveHouse$Part" "word" "J"), (Jvm.Cond.lays "StaveHouse$Part" "StaveHouse$Part" "clef" "I"), (Jvm.Cond.lays "StaveHouse$Part" "StaveHouse$Part" "number" "I"), (Jvm.Cond.lays "StaveHouse$Part" "StaveHouse$Part" "token" "I"), (Jvm.Cond.lays "StaveHouse$Part" "StaveHouse$Part" "root" "I"), (Jvm.Cond.laysFinal "StaveHouse$Part" "StaveHouse$Part" "events" "[LStaveHouse$Event;"), (Jvm.Cond.lays "StaveHouse$Part" "StaveHouse$Part" "eventCount" "I"), (Jvm.Cond.lays "StaveHouse$Part" "StaveHouse$Part" "endPlace" "J"), (Jvm.Cond.laysFinal "StaveHouse$Part" "StaveHouse$Part" "notes" "[[I"), (Jvm.Cond.laysFinal "StaveHouse$Part" "StaveHouse$Part" "notePlaces" "[J"), (Jvm.Cond.lays "StaveHouse$Part" "StaveHouse$Part" "noteCount" "I"), (Jvm.Cond.lays "StaveHouse$Part" "StaveHouse$Part" "tooManyNotes" "Z"), (Jvm.Cond.laysFinal "StaveHouse$Part" "StaveHouse$Part" "known" "[I")], w ∈ wAll
  exact List.forall_mem_cons.mpr ⟨k_4_153, List.forall_mem_cons.mpr ⟨k_4_155, List.forall_mem_cons.mpr ⟨k_4_157, List.forall_mem_cons.mpr ⟨k_4_159, List.forall_mem_cons.mpr ⟨k_4_161, List.forall_mem_cons.mpr ⟨k_4_163, List.forall_mem_cons.mpr ⟨k_4_165, List.forall_mem_cons.mpr ⟨k_4_167, List.forall_mem_cons.mpr ⟨k_4_169, List.forall_mem_cons.mpr ⟨k_4_171, List.forall_mem_cons.mpr ⟨k_4_173, List.forall_mem_cons.mpr ⟨k_4_175, List.forall_mem_cons.mpr ⟨k_4_177, fun _ h => absurd h List.not_mem_nil⟩⟩⟩⟩⟩⟩⟩⟩⟩⟩⟩⟩⟩
set_option maxRecDepth 20000 in
theorem inW_11 : ∀ w ∈ u_ws RX11 TX11 19, w ∈ wAll := by
  show ∀ w ∈ [(Jvm.Cond.lays "StaveHouse$Walker" "StaveHouse$Walker" "tree" "LStaveHouse$Parser;"), (Jvm.Cond.lays "StaveHouse$Walker" "StaveHouse$Walker" "part" "LStaveHouse$Part;"), (Jvm.Cond.lays "StaveHouse$Walker" "StaveHouse$Walker" "wrong" "I"), (Jvm.Cond.lays "StaveHouse$Walker" "StaveHouse$Walker" "gone" "I"), (Jvm.Cond.lays "StaveHouse$Walker" "StaveHouse$Walker" "loud" "I"), (Jvm.Cond.lays "StaveHouse$Walker" "StaveHouse$Walker" "backs" "I"), (Jvm.Cond.lays "StaveHouse$Walker" "StaveHouse$Walker" "brackets" "I"), (Jvm.Cond.lays "StaveHouse$Walker" "StaveHouse$Walker" "bracket" "I"), (Jvm.Cond.lays "StaveHouse$Walker" "StaveHouse$Walker" "bracketPlace" "I"), (Jvm.Cond.lays "StaveHouse$Walker" "StaveHouse$Walker" "tupletFirst" "I"), (Jvm.Cond.lays "StaveHouse$Walker" "StaveHouse$Walker" "tupletSecond" "I"), (Jvm.Cond.lays "StaveHouse$Walker" "StaveHouse$Walker" "come" "J"), (Jvm.Cond.lays "StaveHouse$Walker" "StaveHouse$Walker" "farthest" "J"), (Jvm.Cond.lays "StaveHouse$Walker" "StaveHouse$Walker" "bar" "J"), (Jvm.Cond.laysFinal "StaveHouse$Walker" "StaveHouse$Walker" "powers" "[I"), (Jvm.Cond.laysFinal "StaveHouse$Walker" "StaveHouse$Walker" "carrySigns" "[I"), (Jvm.Cond.laysFinal "StaveHouse$Walker" "StaveHouse$Walker" "carrySteps" "[I"), (Jvm.Cond.laysFinal "StaveHouse$Walker" "StaveHouse$Walker" "carryTones" "[I"), (Jvm.Cond.lays "StaveHouse$Walker" "StaveHouse$Walker" "carries" "I")], w ∈ wAll
  exact List.forall_mem_cons.mpr ⟨k_1_209, List.forall_mem_cons.mpr ⟨k_1_211, List.forall_mem_cons.mpr ⟨k_1_213, List.forall_mem_cons.mpr ⟨k_1_215, List.forall_mem_cons.mpr ⟨k_1_217, List.forall_mem_cons.mpr ⟨k_1_219, List.forall_mem_cons.mpr ⟨k_1_221, List.forall_mem_cons.mpr ⟨k_1_223, List.forall_mem_cons.mpr ⟨k_1_225, List.forall_mem_cons.mpr ⟨k_1_227, List.forall_mem_cons.mpr ⟨k_1_229, List.forall_mem_cons.mpr ⟨k_1_231, List.forall_mem_cons.mpr ⟨k_1_233, List.forall_mem_cons.mpr ⟨k_1_235, List.forall_mem_cons.mpr ⟨k_1_237, List.forall_mem_cons.mpr ⟨k_1_239, List.forall_mem_cons.mpr ⟨k_2_1, List.forall_mem_cons.mpr ⟨k_2_3, List.forall_mem_cons.mpr ⟨k_2_5, fun _ h => absurd h List.not_mem_nil⟩⟩⟩⟩⟩⟩⟩⟩⟩⟩⟩⟩⟩⟩⟩⟩⟩⟩⟩
abbrev Q_Piece_hasPartNamed (K : zK) (D : va_G) (ca : Nat → ClassId) (ad : Nat → Int → Nat → Nat) (L : List Nat) (r : Int) (F : zF) (B : zB) (A : Nat → Prop) : Array Value → State → Outcome → State → Prop := va_Qi (S := Unit) (fun p _ => p = iI r) (fun _ => zPo D ca ad lnC K.2 L F B A) A
def f_Piece_hasPartNamed_2 (K : zK) : Nat → Int → Int → Int → zF → zB → zO
  | 0, _, _, _, _, _ => none
  | n + 1, l3, l0, l1, F, B => if 0 ≤ l0 ∧ l0 < K.2 6 then if r32 l3 then if r32 (F 6 l0 1) then (if (F 6 l0 1) ≤ l3 then some (0, F, B) else if 0 ≤ l3 ∧ l3 < 4 then if 0 ≤ (B 6 l0 0 l3) ∧ (B 6 l0 0 l3) < K.2 4 then if r64 (F 4 (B 6 l0 0 l3) 0) then if r64 l1 then (if (zcmp (F 4 (B 6 l0 0 l3) 0) l1) = 0 then some (1, F, B) else f_Piece_hasPartNamed_2 K n (l3 + 1) l0 l1 F B) else none else none else none else none) else none else none else none
set_option maxHeartbeats 4000000 in
set_option maxRecDepth 100000 in
theorem b_Piece_hasPartNamed_2 {D : va_G} {ca : Nat → ClassId} {ad : Nat → Int → Nat → Nat} {L : List Nat} {aS vS : Nat → Nat} {A : Nat → Prop} {p : Program} {l : Launch} {e : Env} {s : State} {m : MethodId} {args : Array Value} {below : List Frame} {meth : Method} {c : Code} {K : zK} {r : Int} {F9 : zF} {B9 : zB} (X : zX D ca L aS vS A p s m args meth c prog_8_method_4_code 4 (Option.some Jvm.ClassFile.FieldType.boolean) "StaveHouse$Piece") : ∀ {n : Nat} {l3 : Int} {l0 : Int} {l1 : Int} {F : zF} {B : zB} {H : Heap} {locs : List Loc} {ls : Array Slot}, f_Piece_hasPartNamed_2 K n l3 l0 l1 F B = some (r, F9, B9) → zH D ca ad lnC K.2 L F B A H → va_S A s.heap H locs → lv_has ls 4 [(3, .int (iI l3)), (0, .ref (ad 6 l0 0)), (1, .long (lI l1))] → W p l e ({ frames := 0, cells := 0, slots := 0, locals := 0 } : Room) s m args below meth c H locs 0 0 (MQ below (Q_Piece_hasPartNamed K D ca ad L r F9 B9 A) args s 0 0 A) (F0 m 2 ls []) := by
  obtain ⟨hx, hb, hr, hml, hown, hts, hlk, hK, hA, hL, hX⟩ := id X
  intro n
  induction n with
  | zero =>
    intros
    rename_i hf _ _ _
    cases hf
  | succ n ih =>
    intro l3 l0 l1 F B H locs ls hf hZ hS hl
    replace hf : (if 0 ≤ l0 ∧ l0 < K.2 6 then if r32 l3 then if r32 (F 6 l0 1) then (if (F 6 l0 1) ≤ l3 then some (0, F, B) else if 0 ≤ l3 ∧ l3 < 4 then if 0 ≤ (B 6 l0 0 l3) ∧ (B 6 l0 0 l3) < K.2 4 then if r64 (F 4 (B 6 l0 0 l3) 0) then if r64 l1 then (if (zcmp (F 4 (B 6 l0 0 l3) 0) l1) = 0 then some (1, F, B) else f_Piece_hasPartNamed_2 K n (l3 + 1) l0 l1 F B) else none else none else none else none) else none else none else none) = some (r, F9, B9) := hf
    refine lv_iload_n hx hb (D_29 W_prog_8_method_4_code_0 2 rfl rfl) rfl (lv_at hl 0 rfl) ?_
    refine lv_aload_n hx hb (D_42 W_prog_8_method_4_code_0 3 rfl rfl) rfl (lv_at hl 1 rfl) ?_
    obtain ⟨g1, hf⟩ := gif hf
    refine zget (ci := 6) (C := RX6) (T := TX6) (v := .int (iI (F 6 l0 1))) (k := 1) hx hb hts inW_6 hown hK hZ g1.1 g1.2 rfl (by decide) k_2_190 rfl (D_180 W_prog_8_method_4_code_0 4 rfl rfl rfl) ?_
    obtain ⟨g2, hf⟩ := gif hf
    obtain ⟨g3, hf⟩ := gif hf
    refine zge (tgt := 32) hx hb g2 g3 (D_162 W_prog_8_method_4_code_0 7 rfl rfl rfl) (by decide) (fun h4 => ?_) (fun h4 => ?_)
    · replace hf := gpos hf h4
      refine lv_iconst (v := iI 0) hx hb (D_3 W_prog_8_method_4_code_32 0 rfl rfl) rfl ?_
      cases hf
      exact W.zret hx hb hr rfl (fun t ht hW => ⟨⟨_, (), rfl, rfl, by rw [ht]; exact hZ, va_K.moved hW.alike hK⟩, hS.F ht⟩) hS.2.2 (D_172 W_prog_8_method_4_code_32 1 rfl rfl) hlk
    · replace hf := gneg hf h4
      refine lv_aload_n hx hb (D_42 W_prog_8_method_4_code_0 10 rfl rfl) rfl (lv_at hl 1 rfl) ?_
      refine zget (ci := 6) (C := RX6) (T := TX6) (v := .ref (ad 6 l0 (0 + 1))) (k := 0) hx hb hts inW_6 hown hK hZ g1.1 g1.2 rfl (by decide) k_2_185 rfl (D_180 W_prog_8_method_4_code_0 11 rfl rfl rfl) ?_
      refine lv_iload_n hx hb (D_29 W_prog_8_method_4_code_0 14 rfl rfl) rfl (lv_at hl 0 rfl) ?_
      obtain ⟨g5, hf⟩ := gif hf
      refine zaldR (t := 4) (x := 6) (ci := 6) (k := 0) hx hb hK rfl rfl hZ g1.1 g1.2 rfl (Nat.le_of_ble_eq_true rfl) g5.1 g5.2 (D_50 W_prog_8_method_4_code_0 15 rfl rfl) ?_
      obtain ⟨g6, hf⟩ := gif hf
      refine zunrf g6.1 ?_
      refine zget (ci := 4) (C := RX4) (T := TX4) (v := .long (lI (F 4 (B 6 l0 0 l3) 0))) (k := 0) hx hb hts inW_4 hown hK hZ g6.1 g6.2 rfl (by decide) k_4_115 rfl (D_180 W_prog_8_method_4_code_0 16 rfl rfl rfl) ?_
      refine lv_lload_n hx hb (D_31 W_prog_8_method_4_code_0 19 rfl rfl) rfl (lv_at hl 2 rfl) ?_
      obtain ⟨g7, hf⟩ := gif hf
      obtain ⟨g8, hf⟩ := gif hf
      refine zcmp_r hx hb g7 g8 (D_148 W_prog_8_method_4_code_0 20 rfl rfl) ?_
      refine z0ne (tgt := 26) hx hb zcmp_32 (D_154 W_prog_8_method_4_code_0 21 rfl rfl rfl) (by decide) (fun h9 => ?_) (fun h9 => ?_)
      · replace hf := gneg hf h9
        refine lv_iinc (v := iI (l3 + 1)) (lv' := [(3, .int (iI (l3 + 1))), (0, .ref (ad 6 l0 0)), (1, .long (lI l1))]) hx hb d_8_4_26 hl (k := 0) rfl (iI_add _ 1) (by decide) rfl (fun ls hl => ?_)
        refine lv_goto (tgt := 2) hx hb (D_167 W_prog_8_method_4_code_0 29 rfl rfl rfl) (by decide) ?_
        exact ih hf hZ hS (lv_sub hl [0, 1, 2] rfl)
      · replace hf := gpos hf h9
        refine lv_iconst (v := iI 1) hx hb (D_4 W_prog_8_method_4_code_0 24 rfl rfl) rfl ?_
        cases hf
        exact W.zret hx hb hr rfl (fun t ht hW => ⟨⟨_, (), rfl, rfl, by rw [ht]; exact hZ, va_K.moved hW.alike hK⟩, hS.F ht⟩) hS.2.2 (D_172 W_prog_8_method_4_code_0 25 rfl rfl) hlk

def f_Piece_hasPartNamed (K : zK) (l0 : Int) (l1 : Int) (F : zF) (B : zB) : zO := f_Piece_hasPartNamed_2 K K.1 0 l0 l1 F B
set_option maxHeartbeats 4000000 in
set_option maxRecDepth 100000 in
theorem c_Piece_hasPartNamed {l : Launch} {D : va_G} {ca : Nat → ClassId} {ad : Nat → Int → Nat → Nat} {L : List Nat} {aS vS : Nat → Nat} {sz : Nat} {K : zK}  {l0 : Int} {l1 : Int} {F F9 : zF} {B B9 : zB} {r : Int} (hf : f_Piece_hasPartNamed K l0 l1 F B = some (r, F9, B9)) : Met l ({ cls := "StaveHouse$Piece", name := "hasPartNamed", desc := "(J)Z" } : Jvm.MethodName) (Cond.code ({ cls := "StaveHouse$Piece", name := "hasPartNamed", desc := "(J)Z" } : Jvm.MethodName) prog_8_method_4_code 4 (Option.some Jvm.ClassFile.FieldType.boolean) :: wAll) ({ frames := 0, cells := 0, slots := 0, locals := 0 } : Room) (va_Pc [.ref (ad 6 l0 0), .long (lI l1)] (zPre D ca ad lnC K.2 L aS vS F B sz)) (Q_Piece_hasPartNamed K D ca ad L r F9 B9 (zA L sz)) 0 0 (zA L sz) := by
  refine zMet (Qc := Q_Piece_hasPartNamed K D ca ad L r F9 B9) (lv := [(0, .ref (ad 6 l0 0)), (1, .long (lI l1))]) (by decide) (Nat.le_of_ble_eq_true rfl) rfl (fun A p e s m below meth c ls X hZ hS hl => ?_)
  obtain ⟨hx, hb, hr, hml, hown, hts, hlk, hK, hA, hL, hX⟩ := id X
  replace hf : (f_Piece_hasPartNamed_2 K K.1 0 l0 l1 F B) = some (r, F9, B9) := hf
  refine lv_iconst (v := iI 0) hx hb (D_3 W_prog_8_method_4_code_0 0 rfl rfl) rfl ?_
  refine lv_istore_n (lv' := [(3, .int (iI 0)), (0, .ref (ad 6 l0 0)), (1, .long (lI l1))]) hx hb (D_62 W_prog_8_method_4_code_0 1 rfl rfl) rfl hl (by decide) rfl (fun ls hl => ?_)
  exact b_Piece_hasPartNamed_2 X hf hZ hS (lv_sub hl [0, 1, 2] rfl)

abbrev Q_Part_clear (K : zK) (D : va_G) (ca : Nat → ClassId) (ad : Nat → Int → Nat → Nat) (L : List Nat) (r : Int) (F : zF) (B : zB) (A : Nat → Prop) : Array Value → State → Outcome → State → Prop := va_Qv (S := Unit) (fun _ => True) (fun _ => zPo D ca ad lnC K.2 L F B A) A
def f_Part_clear (K : zK) (l0 : Int) (F : zF) (B : zB) : zO := if 0 ≤ l0 ∧ l0 < K.2 4 then some (0, (zup3 (zup3 (zup3 F 4 l0 6 0) 4 l0 10 0) 4 l0 7 0), B) else none
set_option maxHeartbeats 4000000 in
set_option maxRecDepth 100000 in
theorem c_Part_clear {l : Launch} {D : va_G} {ca : Nat → ClassId} {ad : Nat → Int → Nat → Nat} {L : List Nat} {aS vS : Nat → Nat} {sz : Nat} {K : zK}  {l0 : Int} {F F9 : zF} {B B9 : zB} {r : Int} (hf : f_Part_clear K l0 F B = some (r, F9, B9)) : Met l ({ cls := "StaveHouse$Part", name := "clear", desc := "()V" } : Jvm.MethodName) (Cond.code ({ cls := "StaveHouse$Part", name := "clear", desc := "()V" } : Jvm.MethodName) prog_6_method_2_code 1 (Option.none : Option Jvm.ClassFile.FieldType) :: wAll) ({ frames := 0, cells := 0, slots := 0, locals := 0 } : Room) (va_Pc [.ref (ad 4 l0 0)] (zPre D ca ad lnC K.2 L aS vS F B sz)) (Q_Part_clear K D ca ad L r F9 B9 (zA L sz)) 0 0 (zA L sz) := by
  refine zMet (Qc := Q_Part_clear K D ca ad L r F9 B9) (lv := [(0, .ref (ad 4 l0 0))]) (by decide) (Nat.le_of_ble_eq_true rfl) rfl (fun A p e s m below meth c ls X hZ hS hl => ?_)
  obtain ⟨hx, hb, hr, hml, hown, hts, hlk, hK, hA, hL, hX⟩ := id X
  replace hf : (if 0 ≤ l0 ∧ l0 < K.2 4 then some (0, (zup3 (zup3 (zup3 F 4 l0 6 0) 4 l0 10 0) 4 l0 7 0), B) else none) = some (r, F9, B9) := hf
  refine lv_aload_n hx hb (D_42 W_prog_6_method_2_code_0 0 rfl rfl) rfl (lv_at hl 0 rfl) ?_
  refine lv_iconst (v := iI 0) hx hb (D_3 W_prog_6_method_2_code_0 1 rfl rfl) rfl ?_
  obtain ⟨g1, hf⟩ := gif hf
  refine zput (ci := 4) (C := RX4) (T := TX4) (k := 6) (v := 0) (w := .int (iI 0)) hx hb hts inW_4 tyX4 tyX4_ok nmX4 hown hK hZ hS g1.1 g1.2 rfl (by decide) k_4_135 rfl (fun G h => congrArg (fun q => Value.int (iI q)) h) rfl rfl (zno (by decide)) (D_181 W_prog_6_method_2_code_0 2 rfl rfl rfl) (fun H2 locs2 hZ2 hS2 => ?_)
  refine lv_aload_n hx hb (D_42 W_prog_6_method_2_code_0 5 rfl rfl) rfl (lv_at hl 0 rfl) ?_
  refine lv_iconst (v := iI 0) hx hb (D_3 W_prog_6_method_2_code_0 6 rfl rfl) rfl ?_
  refine zput (ci := 4) (C := RX4) (T := TX4) (k := 10) (v := 0) (w := .int (iI 0)) hx hb hts inW_4 tyX4 tyX4_ok nmX4 hown hK hZ2 hS2 g1.1 g1.2 rfl (by decide) k_4_148 rfl (fun G h => congrArg (fun q => Value.int (iI q)) h) rfl rfl (zno (by decide)) (D_181 W_prog_6_method_2_code_0 7 rfl rfl rfl) (fun H3 locs3 hZ3 hS3 => ?_)
  refine lv_aload_n hx hb (D_42 W_prog_6_method_2_code_0 10 rfl rfl) rfl (lv_at hl 0 rfl) ?_
  refine lv_lconst (v := lI 0) hx hb (D_9 W_prog_6_method_2_code_0 11 rfl rfl) (by decide) ?_
  refine zput (ci := 4) (C := RX4) (T := TX4) (k := 7) (v := 0) (w := .long (lI 0)) hx hb hts inW_4 tyX4 tyX4_ok nmX4 hown hK hZ3 hS3 g1.1 g1.2 rfl (by decide) k_4_140 rfl (fun G h => congrArg (fun q => Value.long (lI q)) h) rfl rfl (zno (by decide)) (D_181 W_prog_6_method_2_code_0 12 rfl rfl rfl) (fun H4 locs4 hZ4 hS4 => ?_)
  cases hf
  exact W.vret hx hb hr (fun t ht hW => ⟨⟨(), rfl, trivial, by rw [ht]; exact hZ4, va_K.moved hW.alike hK⟩, hS4.F ht⟩) hS4.2.2 (D_177 W_prog_6_method_2_code_0 15 rfl rfl) hlk

abbrev Q_Piece_barLength (K : zK) (D : va_G) (ca : Nat → ClassId) (ad : Nat → Int → Nat → Nat) (L : List Nat) (r : Int) (F : zF) (B : zB) (A : Nat → Prop) : Array Value → State → Outcome → State → Prop := va_Ql (S := Unit) (fun p _ => p = lI r) (fun _ => zPo D ca ad lnC K.2 L F B A) A
def f_Piece_barLength (K : zK) (l0 : Int) (F : zF) (B : zB) : zO := if 0 ≤ l0 ∧ l0 < K.2 6 then if r32 (F 6 l0 5) then if r32 (zmax (F 6 l0 5) 1) then if ¬ lI (zmax (F 6 l0 5) 1) = 0 then if r32 (F 6 l0 4) then some ((zldv 812851200 (zmax (F 6 l0 5) 1)) * (F 6 l0 4), F, B) else none else none else none else none else none
set_option maxHeartbeats 4000000 in
set_option maxRecDepth 100000 in
theorem c_Piece_barLength {l : Launch} {D : va_G} {ca : Nat → ClassId} {ad : Nat → Int → Nat → Nat} {L : List Nat} {aS vS : Nat → Nat} {sz : Nat} {K : zK}  {l0 : Int} {F F9 : zF} {B B9 : zB} {r : Int} (hf : f_Piece_barLength K l0 F B = some (r, F9, B9)) : Met l ({ cls := "StaveHouse$Piece", name := "barLength", desc := "()J" } : Jvm.MethodName) (Cond.code ({ cls := "StaveHouse$Piece", name := "barLength", desc := "()J" } : Jvm.MethodName) prog_8_method_5_code 1 (Option.some Jvm.ClassFile.FieldType.long) :: wAll) ({ frames := 1, cells := 0, slots := 0, locals := 15 } : Room) (va_Pc [.ref (ad 6 l0 0)] (zPre D ca ad lnC K.2 L aS vS F B sz)) (Q_Piece_barLength K D ca ad L r F9 B9 (zA L sz)) 0 0 (zA L sz) := by
  refine zMet (Qc := Q_Piece_barLength K D ca ad L r F9 B9) (lv := [(0, .ref (ad 6 l0 0))]) (by decide) (Nat.le_of_ble_eq_true rfl) rfl (fun A p e s m below meth c ls X hZ hS hl => ?_)
  obtain ⟨hx, hb, hr, hml, hown, hts, hlk, hK, hA, hL, hX⟩ := id X
  replace hf : (if 0 ≤ l0 ∧ l0 < K.2 6 then if r32 (F 6 l0 5) then if r32 (zmax (F 6 l0 5) 1) then if ¬ lI (zmax (F 6 l0 5) 1) = 0 then if r32 (F 6 l0 4) then some ((zldv 812851200 (zmax (F 6 l0 5) 1)) * (F 6 l0 4), F, B) else none else none else none else none else none) = some (r, F9, B9) := hf
  refine lv_ldc2 hx hb hown (hts _ k_4_193) (D_20 W_prog_8_method_5_code_0 0 rfl rfl rfl) ?_
  refine W.eq (g2 := F0 m 3 ls [.long (lI 812851200)]) rfl ?_
  refine lv_aload_n hx hb (D_42 W_prog_8_method_5_code_0 3 rfl rfl) rfl (lv_at hl 0 rfl) ?_
  obtain ⟨g1, hf⟩ := gif hf
  refine zget (ci := 6) (C := RX6) (T := TX6) (v := .int (iI (F 6 l0 5))) (k := 5) hx hb hts inW_6 hown hK hZ g1.1 g1.2 rfl (by decide) k_2_212 rfl (D_180 W_prog_8_method_5_code_0 4 rfl rfl rfl) ?_
  refine lv_iconst (v := iI 1) hx hb (D_4 W_prog_8_method_5_code_0 7 rfl rfl) rfl ?_
  obtain ⟨g2, hf⟩ := gif hf
  refine va_mmax hx hb (by rw [hml]; exact hl.1.symm) hown (hts _ k_4_194) (hts _ k_1_39) (hts _ k_1_3) (hts _ k_1_40) (Nat.le_of_ble_eq_true rfl) (Nat.le_of_ble_eq_true rfl) (Nat.le_of_ble_eq_true rfl) (Nat.le_of_ble_eq_true rfl) (D_184 W_prog_8_method_5_code_0 8 rfl rfl rfl) ?_
  rw [zmax_e g2 (by decide)]
  obtain ⟨g3, hf⟩ := gif hf
  refine zi2l hx hb g3 (D_133 W_prog_8_method_5_code_0 11 rfl rfl) ?_
  obtain ⟨g4, hf⟩ := gif hf
  refine zldv_r hx hb g4 (D_109 W_prog_8_method_5_code_0 12 rfl rfl) ?_
  refine lv_aload_n hx hb (D_42 W_prog_8_method_5_code_0 13 rfl rfl) rfl (lv_at hl 0 rfl) ?_
  refine zget (ci := 6) (C := RX6) (T := TX6) (v := .int (iI (F 6 l0 4))) (k := 4) hx hb hts inW_6 hown hK hZ g1.1 g1.2 rfl (by decide) k_2_207 rfl (D_180 W_prog_8_method_5_code_0 14 rfl rfl rfl) ?_
  obtain ⟨g5, hf⟩ := gif hf
  refine zi2l hx hb g5 (D_133 W_prog_8_method_5_code_0 17 rfl rfl) ?_
  refine zlmul hx hb (D_105 W_prog_8_method_5_code_0 18 rfl rfl) ?_
  cases hf
  exact W.lret hx hb hr (fun t ht hW => ⟨⟨_, (), rfl, rfl, by rw [ht]; exact hZ, va_K.moved hW.alike hK⟩, hS.F ht⟩) hS.2.2 (D_173 W_prog_8_method_5_code_0 19 rfl rfl) hlk

abbrev Q_Walker_refuse (K : zK) (D : va_G) (ca : Nat → ClassId) (ad : Nat → Int → Nat → Nat) (L : List Nat) (r : Int) (F : zF) (B : zB) (A : Nat → Prop) : Array Value → State → Outcome → State → Prop := va_Qv (S := Unit) (fun _ => True) (fun _ => zPo D ca ad lnC K.2 L F B A) A
def f_Walker_refuse_17 (K : zK)  (F : zF) (B : zB) : zO := some (0, F, B)
set_option maxHeartbeats 4000000 in
set_option maxRecDepth 100000 in
theorem b_Walker_refuse_17 {D : va_G} {ca : Nat → ClassId} {ad : Nat → Int → Nat → Nat} {L : List Nat} {aS vS : Nat → Nat} {A : Nat → Prop} {p : Program} {l : Launch} {e : Env} {s : State} {m : MethodId} {args : Array Value} {below : List Frame} {meth : Method} {c : Code} {K : zK} {r : Int} {F9 : zF} {B9 : zB} (X : zX D ca L aS vS A p s m args meth c prog_13_method_3_code 3 (Option.none : Option Jvm.ClassFile.FieldType) "StaveHouse$Walker")  {F : zF} {B : zB} {H : Heap} {locs : List Loc} {ls : Array Slot} (hf : f_Walker_refuse_17 K  F B = some (r, F9, B9)) (hZ : zH D ca ad lnC K.2 L F B A H) (hS : va_S A s.heap H locs) (hl : lv_has ls 3 []) : W p l e ({ frames := 0, cells := 0, slots := 0, locals := 0 } : Room) s m args below meth c H locs 0 0 (MQ below (Q_Walker_refuse K D ca ad L r F9 B9 A) args s 0 0 A) (F0 m 17 ls []) := by
  obtain ⟨hx, hb, hr, hml, hown, hts, hlk, hK, hA, hL, hX⟩ := id X
  replace hf : (some (0, F, B)) = some (r, F9, B9) := hf
  cases hf
  exact W.vret hx hb hr (fun t ht hW => ⟨⟨(), rfl, trivial, by rw [ht]; exact hZ, va_K.moved hW.alike hK⟩, hS.F ht⟩) hS.2.2 (D_177 W_prog_13_method_3_code_0 17 rfl rfl) hlk

def f_Walker_refuse (K : zK) (l0 : Int) (l1 : Int) (l2 : Int) (F : zF) (B : zB) : zO := if 0 ≤ l0 ∧ l0 < K.2 11 then if r32 (F 11 l0 2) then (if (F 11 l0 2) = 0 then f_Walker_refuse_17 K (zup3 F 11 l0 2 (l1 + (16 * l2))) B else f_Walker_refuse_17 K F B) else none else none
set_option maxHeartbeats 4000000 in
set_option maxRecDepth 100000 in
theorem c_Walker_refuse {l : Launch} {D : va_G} {ca : Nat → ClassId} {ad : Nat → Int → Nat → Nat} {L : List Nat} {aS vS : Nat → Nat} {sz : Nat} {K : zK}  {l0 : Int} {l1 : Int} {l2 : Int} {F F9 : zF} {B B9 : zB} {r : Int} (hf : f_Walker_refuse K l0 l1 l2 F B = some (r, F9, B9)) : Met l ({ cls := "StaveHouse$Walker", name := "refuse", desc := "(II)V" } : Jvm.MethodName) (Cond.code ({ cls := "StaveHouse$Walker", name := "refuse", desc := "(II)V" } : Jvm.MethodName) prog_13_method_3_code 3 (Option.none : Option Jvm.ClassFile.FieldType) :: wAll) ({ frames := 0, cells := 0, slots := 0, locals := 0 } : Room) (va_Pc [.ref (ad 11 l0 0), .int (iI l1), .int (iI l2)] (zPre D ca ad lnC K.2 L aS vS F B sz)) (Q_Walker_refuse K D ca ad L r F9 B9 (zA L sz)) 0 0 (zA L sz) := by
  refine zMet (Qc := Q_Walker_refuse K D ca ad L r F9 B9) (lv := [(0, .ref (ad 11 l0 0)), (1, .int (iI l1)), (2, .int (iI l2))]) (by decide) (Nat.le_of_ble_eq_true rfl) rfl (fun A p e s m below meth c ls X hZ hS hl => ?_)
  obtain ⟨hx, hb, hr, hml, hown, hts, hlk, hK, hA, hL, hX⟩ := id X
  replace hf : (if 0 ≤ l0 ∧ l0 < K.2 11 then if r32 (F 11 l0 2) then (if (F 11 l0 2) = 0 then f_Walker_refuse_17 K (zup3 F 11 l0 2 (l1 + (16 * l2))) B else f_Walker_refuse_17 K F B) else none else none) = some (r, F9, B9) := hf
  refine lv_aload_n hx hb (D_42 W_prog_13_method_3_code_0 0 rfl rfl) rfl (lv_at hl 0 rfl) ?_
  obtain ⟨g1, hf⟩ := gif hf
  refine zget (ci := 11) (C := RX11) (T := TX11) (v := .int (iI (F 11 l0 2))) (k := 2) hx hb hts inW_11 hown hK hZ g1.1 g1.2 rfl (by decide) k_1_192 rfl (D_180 W_prog_13_method_3_code_0 1 rfl rfl rfl) ?_
  obtain ⟨g2, hf⟩ := gif hf
  refine z0ne (tgt := 17) hx hb g2 (D_154 W_prog_13_method_3_code_0 4 rfl rfl rfl) (by decide) (fun h3 => ?_) (fun h3 => ?_)
  · replace hf := gneg hf h3
    exact b_Walker_refuse_17 X hf hZ hS (lv_sub hl [] rfl)
  · replace hf := gpos hf h3
    refine lv_aload_n hx hb (D_42 W_prog_13_method_3_code_0 7 rfl rfl) rfl (lv_at hl 0 rfl) ?_
    refine lv_iload_n hx hb (D_27 W_prog_13_method_3_code_0 8 rfl rfl) rfl (lv_at hl 1 rfl) ?_
    refine lv_bipush (v := iI 16) hx hb (D_16 W_prog_13_method_3_code_0 9 rfl rfl rfl) (by decide) ?_
    refine lv_iload_n hx hb (D_28 W_prog_13_method_3_code_0 11 rfl rfl) rfl (lv_at hl 2 rfl) ?_
    refine zmul hx hb (D_104 W_prog_13_method_3_code_0 12 rfl rfl) ?_
    refine zadd hx hb (D_96 W_prog_13_method_3_code_0 13 rfl rfl) ?_
    refine zput (ci := 11) (C := RX11) (T := TX11) (k := 2) (v := (l1 + (16 * l2))) (w := .int (iI (l1 + (16 * l2)))) hx hb hts inW_11 tyX11 tyX11_ok nmX11 hown hK hZ hS g1.1 g1.2 rfl (by decide) k_1_192 rfl (fun G h => congrArg (fun q => Value.int (iI q)) h) rfl rfl (zno (by decide)) (D_181 W_prog_13_method_3_code_0 14 rfl rfl rfl) (fun H4 locs4 hZ4 hS4 => ?_)
    exact b_Walker_refuse_17 X hf hZ4 hS4 (lv_sub hl [] rfl)

abbrev Q_Walker_slowed (K : zK) (D : va_G) (ca : Nat → ClassId) (ad : Nat → Int → Nat → Nat) (L : List Nat) (r : Int) (F : zF) (B : zB) (A : Nat → Prop) : Array Value → State → Outcome → State → Prop := va_Qi (S := Unit) (fun p _ => p = iI r) (fun _ => zPo D ca ad lnC K.2 L F B A) A
def f_Walker_slowed_122 (K : zK) (s0 : Int) (F : zF) (B : zB) : zO := some (s0, F, B)
set_option maxHeartbeats 4000000 in
set_option maxRecDepth 100000 in
theorem b_Walker_slowed_122 {D : va_G} {ca : Nat → ClassId} {ad : Nat → Int → Nat → Nat} {L : List Nat} {aS vS : Nat → Nat} {A : Nat → Prop} {p : Program} {l : Launch} {e : Env} {s : State} {m : MethodId} {args : Array Value} {below : List Frame} {meth : Method} {c : Code} {K : zK} {r : Int} {F9 : zF} {B9 : zB} (X : zX D ca L aS vS A p s m args meth c prog_13_method_12_code 5 (Option.some Jvm.ClassFile.FieldType.int) "StaveHouse$Walker") {s0 : Int} {F : zF} {B : zB} {H : Heap} {locs : List Loc} {ls : Array Slot} (hf : f_Walker_slowed_122 K s0 F B = some (r, F9, B9)) (hZ : zH D ca ad lnC K.2 L F B A H) (hS : va_S A s.heap H locs) (hl : lv_has ls 5 []) : W p l e ({ frames := 0, cells := 0, slots := 0, locals := 0 } : Room) s m args below meth c H locs 0 0 (MQ below (Q_Walker_slowed K D ca ad L r F9 B9 A) args s 0 0 A) (F0 m 122 ls [.int (iI s0)]) := by
  obtain ⟨hx, hb, hr, hml, hown, hts, hlk, hK, hA, hL, hX⟩ := id X
  replace hf : (some (s0, F, B)) = some (r, F9, B9) := hf
  cases hf
  exact W.iret hx hb hr (fun t ht hW => ⟨⟨_, (), rfl, rfl, by rw [ht]; exact hZ, va_K.moved hW.alike hK⟩, hS.F ht⟩) hS.2.2 (D_172 W_prog_13_method_12_code_96 26 rfl rfl) hlk

def f_Walker_slowed_70 (rec59 : Int → Int → Int → zF → zB → zO) (K : zK) : Nat → Int → Int → Int → Int → zF → zB → zO
  | 0, _, _, _, _, _, _ => none
  | n + 1, l4, l3, l2, l0, F, B => if 0 ≤ l0 ∧ l0 < K.2 11 then if 0 ≤ l3 ∧ l3 < 4 then if r32 l4 then if r32 (B 11 l0 14 l3) then (if (B 11 l0 14 l3) ≤ l4 then rec59 (l3 + 1) l2 l0 F B else if 0 ≤ l3 ∧ l3 < ztl 6 then if r32 (l2 * (ztv 6 l3)) then (if (l2 * (ztv 6 l3)) ≤ 1024 then f_Walker_slowed_70 rec59 K n (l4 + 1) l3 (l2 * (ztv 6 l3)) l0 F B else some ((-1), F, B)) else none else none) else none else none else none else none
set_option maxHeartbeats 4000000 in
set_option maxRecDepth 100000 in
theorem b_Walker_slowed_70 {D : va_G} {ca : Nat → ClassId} {ad : Nat → Int → Nat → Nat} {L : List Nat} {aS vS : Nat → Nat} {A : Nat → Prop} {p : Program} {l : Launch} {e : Env} {s : State} {m : MethodId} {args : Array Value} {below : List Frame} {meth : Method} {c : Code} {K : zK} {r : Int} {F9 : zF} {B9 : zB} (X : zX D ca L aS vS A p s m args meth c prog_13_method_12_code 5 (Option.some Jvm.ClassFile.FieldType.int) "StaveHouse$Walker") {rec59 : Int → Int → Int → zF → zB → zO} (hrec59 : ∀ {l3 : Int} {l2 : Int} {l0 : Int} {F : zF} {B : zB} {H : Heap} {locs : List Loc} {ls : Array Slot}, rec59 l3 l2 l0 F B = some (r, F9, B9) → zH D ca ad lnC K.2 L F B A H → va_S A s.heap H locs → lv_has ls 5 [(3, .int (iI l3)), (2, .int (iI l2)), (0, .ref (ad 11 l0 0))] → W p l e ({ frames := 0, cells := 0, slots := 0, locals := 0 } : Room) s m args below meth c H locs 0 0 (MQ below (Q_Walker_slowed K D ca ad L r F9 B9 A) args s 0 0 A) (F0 m 59 ls [])) : ∀ {n : Nat} {l4 : Int} {l3 : Int} {l2 : Int} {l0 : Int} {F : zF} {B : zB} {H : Heap} {locs : List Loc} {ls : Array Slot}, f_Walker_slowed_70 rec59 K n l4 l3 l2 l0 F B = some (r, F9, B9) → zH D ca ad lnC K.2 L F B A H → va_S A s.heap H locs → lv_has ls 5 [(4, .int (iI l4)), (3, .int (iI l3)), (2, .int (iI l2)), (0, .ref (ad 11 l0 0))] → W p l e ({ frames := 0, cells := 0, slots := 0, locals := 0 } : Room) s m args below meth c H locs 0 0 (MQ below (Q_Walker_slowed K D ca ad L r F9 B9 A) args s 0 0 A) (F0 m 70 ls []) := by
  obtain ⟨hx, hb, hr, hml, hown, hts, hlk, hK, hA, hL, hX⟩ := id X
  intro n
  induction n with
  | zero =>
    intros
    rename_i hf _ _ _
    cases hf
  | succ n ih =>
    intro l4 l3 l2 l0 F B H locs ls hf hZ hS hl
    replace hf : (if 0 ≤ l0 ∧ l0 < K.2 11 then if 0 ≤ l3 ∧ l3 < 4 then if r32 l4 then if r32 (B 11 l0 14 l3) then (if (B 11 l0 14 l3) ≤ l4 then rec59 (l3 + 1) l2 l0 F B else if 0 ≤ l3 ∧ l3 < ztl 6 then if r32 (l2 * (ztv 6 l3)) then (if (l2 * (ztv 6 l3)) ≤ 1024 then f_Walker_slowed_70 rec59 K n (l4 + 1) l3 (l2 * (ztv 6 l3)) l0 F B else some ((-1), F, B)) else none else none) else none else none else none else none) = some (r, F9, B9) := hf
    refine lv_iload hx hb (D_21 W_prog_13_method_12_code_64 6 rfl rfl) (lv_at hl 0 rfl) ?_
    refine lv_aload_n hx hb (D_42 W_prog_13_method_12_code_64 8 rfl rfl) rfl (lv_at hl 3 rfl) ?_
    obtain ⟨g17, hf⟩ := gif hf
    refine zget (ci := 11) (C := RX11) (T := TX11) (v := .ref (ad 11 l0 (14 + 1))) (k := 14) hx hb hts inW_11 hown hK hZ g17.1 g17.2 rfl (by decide) k_1_204 rfl (D_180 W_prog_13_method_12_code_64 9 rfl rfl rfl) ?_
    refine lv_iload_n hx hb (D_29 W_prog_13_method_12_code_64 12 rfl rfl) rfl (lv_at hl 1 rfl) ?_
    obtain ⟨g18, hf⟩ := gif hf
    refine zald (ci := 11) (k := 14) hx hb hK rfl hZ g17.1 g17.2 rfl (Nat.le_of_ble_eq_true rfl) g18.1 g18.2 (D_46 W_prog_13_method_12_code_64 13 rfl rfl) ?_
    obtain ⟨g19, hf⟩ := gif hf
    obtain ⟨g20, hf⟩ := gif hf
    refine zge (tgt := 104) hx hb g19 g20 (D_162 W_prog_13_method_12_code_64 14 rfl rfl rfl) (by decide) (fun h21 => ?_) (fun h21 => ?_)
    · replace hf := gpos hf h21
      refine lv_iinc (v := iI (l3 + 1)) (lv' := [(3, .int (iI (l3 + 1))), (4, .int (iI l4)), (2, .int (iI l2)), (0, .ref (ad 11 l0 0))]) hx hb d_13_12_104 hl (k := 1) rfl (iI_add _ 1) (by decide) rfl (fun ls hl => ?_)
      refine lv_goto (tgt := 59) hx hb (D_167 W_prog_13_method_12_code_96 11 rfl rfl rfl) (by decide) ?_
      exact hrec59 hf hZ hS (lv_sub hl [0, 2, 3] rfl)
    · replace hf := gneg hf h21
      refine lv_iload_n hx hb (D_28 W_prog_13_method_12_code_64 17 rfl rfl) rfl (lv_at hl 2 rfl) ?_
      refine va_gets hx hb (hX.2.2.2.2.2.2 6 _ rfl).1 hS hown (hts _ k_4_220) (fun _ h => h) (D_178 W_prog_13_method_12_code_64 18 rfl rfl rfl) ?_
      refine W.eq (g2 := F0 m 85 ls [.ref (vS (1000 + 6)), .int (iI l2)]) rfl ?_
      refine lv_iload_n hx hb (D_29 W_prog_13_method_12_code_64 21 rfl rfl) rfl (lv_at hl 1 rfl) ?_
      obtain ⟨g22, hf⟩ := gif hf
      refine va_ti (v := .int (iI (ztv 6 l3))) hx hb (ztI hX (by decide) (by decide)) hS (zt_in (by decide) g22) (ztI_v (by decide) g22) (D_46 W_prog_13_method_12_code_64 22 rfl rfl) ?_
      refine zmul hx hb (D_104 W_prog_13_method_12_code_64 23 rfl rfl) ?_
      refine lv_istore_n (lv' := [(2, .int (iI (l2 * (ztv 6 l3)))), (4, .int (iI l4)), (3, .int (iI l3)), (0, .ref (ad 11 l0 0))]) hx hb (D_61 W_prog_13_method_12_code_64 24 rfl rfl) rfl hl (by decide) rfl (fun ls hl => ?_)
      refine lv_iload_n hx hb (D_28 W_prog_13_method_12_code_64 25 rfl rfl) rfl (lv_at hl 0 rfl) ?_
      refine lv_sipush (v := iI 1024) hx hb (D_17 W_prog_13_method_12_code_64 26 rfl rfl rfl) (by decide) ?_
      obtain ⟨g23, hf⟩ := gif hf
      refine zle (tgt := 98) hx hb g23 (by decide) (D_164 W_prog_13_method_12_code_64 29 rfl rfl rfl) (by decide) (fun h24 => ?_) (fun h24 => ?_)
      · replace hf := gpos hf h24
        refine lv_iinc (v := iI (l4 + 1)) (lv' := [(4, .int (iI (l4 + 1))), (2, .int (iI (l2 * (ztv 6 l3)))), (3, .int (iI l3)), (0, .ref (ad 11 l0 0))]) hx hb d_13_12_98 hl (k := 1) rfl (iI_add _ 1) (by decide) rfl (fun ls hl => ?_)
        refine lv_goto (tgt := 70) hx hb (D_167 W_prog_13_method_12_code_96 5 rfl rfl rfl) (by decide) ?_
        exact ih hf hZ hS (lv_sub hl [0, 2, 1, 3] rfl)
      · replace hf := gneg hf h24
        refine lv_iconst (v := iI (-1)) hx hb (D_2 W_prog_13_method_12_code_96 0 rfl rfl) rfl ?_
        cases hf
        exact W.iret hx hb hr (fun t ht hW => ⟨⟨_, (), rfl, rfl, by rw [ht]; exact hZ, va_K.moved hW.alike hK⟩, hS.F ht⟩) hS.2.2 (D_172 W_prog_13_method_12_code_96 1 rfl rfl) hlk

def f_Walker_slowed_59 (K : zK) : Nat → Int → Int → Int → zF → zB → zO
  | 0, _, _, _, _, _ => none
  | n + 1, l3, l2, l0, F, B => if r32 l3 then if r32 (ztl 6) then (if (ztl 6) ≤ l3 then if r32 l2 then (if l2 ≤ 1024 then f_Walker_slowed_122 K l2 F B else f_Walker_slowed_122 K (-1) F B) else none else f_Walker_slowed_70 (f_Walker_slowed_59 K n) K K.1 0 l3 l2 l0 F B) else none else none
set_option maxHeartbeats 4000000 in
set_option maxRecDepth 100000 in
theorem b_Walker_slowed_59 {D : va_G} {ca : Nat → ClassId} {ad : Nat → Int → Nat → Nat} {L : List Nat} {aS vS : Nat → Nat} {A : Nat → Prop} {p : Program} {l : Launch} {e : Env} {s : State} {m : MethodId} {args : Array Value} {below : List Frame} {meth : Method} {c : Code} {K : zK} {r : Int} {F9 : zF} {B9 : zB} (X : zX D ca L aS vS A p s m args meth c prog_13_method_12_code 5 (Option.some Jvm.ClassFile.FieldType.int) "StaveHouse$Walker") : ∀ {n : Nat} {l3 : Int} {l2 : Int} {l0 : Int} {F : zF} {B : zB} {H : Heap} {locs : List Loc} {ls : Array Slot}, f_Walker_slowed_59 K n l3 l2 l0 F B = some (r, F9, B9) → zH D ca ad lnC K.2 L F B A H → va_S A s.heap H locs → lv_has ls 5 [(3, .int (iI l3)), (2, .int (iI l2)), (0, .ref (ad 11 l0 0))] → W p l e ({ frames := 0, cells := 0, slots := 0, locals := 0 } : Room) s m args below meth c H locs 0 0 (MQ below (Q_Walker_slowed K D ca ad L r F9 B9 A) args s 0 0 A) (F0 m 59 ls []) := by
  obtain ⟨hx, hb, hr, hml, hown, hts, hlk, hK, hA, hL, hX⟩ := id X
  intro n
  induction n with
  | zero =>
    intros
    rename_i hf _ _ _
    cases hf
  | succ n ih =>
    intro l3 l2 l0 F B H locs ls hf hZ hS hl
    replace hf : (if r32 l3 then if r32 (ztl 6) then (if (ztl 6) ≤ l3 then if r32 l2 then (if l2 ≤ 1024 then f_Walker_slowed_122 K l2 F B else f_Walker_slowed_122 K (-1) F B) else none else f_Walker_slowed_70 (f_Walker_slowed_59 K n) K K.1 0 l3 l2 l0 F B) else none else none) = some (r, F9, B9) := hf
    refine lv_iload_n hx hb (D_29 W_prog_13_method_12_code_32 27 rfl rfl) rfl (lv_at hl 0 rfl) ?_
    refine va_gets hx hb (hX.2.2.2.2.2.2 6 _ rfl).1 hS hown (hts _ k_4_220) (fun _ h => h) (D_178 W_prog_13_method_12_code_32 28 rfl rfl rfl) ?_
    refine W.eq (g2 := F0 m 63 ls [.ref (vS (1000 + 6)), .int (iI l3)]) rfl ?_
    refine va_tlen (v := iI (ztl 6)) hx hb (ztT hX (by decide)) hS (ztl_n _) (D_190 W_prog_13_method_12_code_32 31 rfl rfl) ?_
    obtain ⟨g12, hf⟩ := gif hf
    obtain ⟨g13, hf⟩ := gif hf
    refine zge (tgt := 110) hx hb g12 g13 (D_162 W_prog_13_method_12_code_64 0 rfl rfl rfl) (by decide) (fun h14 => ?_) (fun h14 => ?_)
    · replace hf := gpos hf h14
      refine lv_iload_n hx hb (D_28 W_prog_13_method_12_code_96 14 rfl rfl) rfl (lv_at hl 1 rfl) ?_
      refine lv_sipush (v := iI 1024) hx hb (D_17 W_prog_13_method_12_code_96 15 rfl rfl rfl) (by decide) ?_
      obtain ⟨g15, hf⟩ := gif hf
      refine zle (tgt := 121) hx hb g15 (by decide) (D_164 W_prog_13_method_12_code_96 18 rfl rfl rfl) (by decide) (fun h16 => ?_) (fun h16 => ?_)
      · replace hf := gpos hf h16
        refine lv_iload_n hx hb (D_28 W_prog_13_method_12_code_96 25 rfl rfl) rfl (lv_at hl 1 rfl) ?_
        exact b_Walker_slowed_122 X hf hZ hS (lv_sub hl [] rfl)
      · replace hf := gneg hf h16
        refine lv_iconst (v := iI (-1)) hx hb (D_2 W_prog_13_method_12_code_96 21 rfl rfl) rfl ?_
        refine lv_goto (tgt := 122) hx hb (D_167 W_prog_13_method_12_code_96 22 rfl rfl rfl) (by decide) ?_
        exact b_Walker_slowed_122 X hf hZ hS (lv_sub hl [] rfl)
    · replace hf := gneg hf h14
      refine lv_iconst (v := iI 0) hx hb (D_3 W_prog_13_method_12_code_64 3 rfl rfl) rfl ?_
      refine lv_istore (lv' := [(4, .int (iI 0)), (3, .int (iI l3)), (2, .int (iI l2)), (0, .ref (ad 11 l0 0))]) hx hb (D_54 W_prog_13_method_12_code_64 4 rfl rfl) hl (by decide) rfl (fun ls hl => ?_)
      exact b_Walker_slowed_70 X ih hf hZ hS (lv_sub hl [0, 1, 2, 3] rfl)

def f_Walker_slowed_20 (rec4 : Int → Int → Int → zF → zB → zO) (K : zK) : Nat → Int → Int → Int → Int → zF → zB → zO
  | 0, _, _, _, _, _, _ => none
  | n + 1, l4, l3, l2, l0, F, B => if r32 l4 then (if 0 ≤ l4 then rec4 (l3 + 1) l2 l0 F B else if 0 ≤ l3 ∧ l3 < ztl 6 then if ¬ iI (ztv 6 l3) = 0 then if r32 (zrm l2 (ztv 6 l3)) then (if (zrm l2 (ztv 6 l3)) = 0 then f_Walker_slowed_20 rec4 K n (l4 + 1) l3 (zdv l2 (ztv 6 l3)) l0 F B else some ((-1), F, B)) else none else none else none) else none
set_option maxHeartbeats 4000000 in
set_option maxRecDepth 100000 in
theorem b_Walker_slowed_20 {D : va_G} {ca : Nat → ClassId} {ad : Nat → Int → Nat → Nat} {L : List Nat} {aS vS : Nat → Nat} {A : Nat → Prop} {p : Program} {l : Launch} {e : Env} {s : State} {m : MethodId} {args : Array Value} {below : List Frame} {meth : Method} {c : Code} {K : zK} {r : Int} {F9 : zF} {B9 : zB} (X : zX D ca L aS vS A p s m args meth c prog_13_method_12_code 5 (Option.some Jvm.ClassFile.FieldType.int) "StaveHouse$Walker") {rec4 : Int → Int → Int → zF → zB → zO} (hrec4 : ∀ {l3 : Int} {l2 : Int} {l0 : Int} {F : zF} {B : zB} {H : Heap} {locs : List Loc} {ls : Array Slot}, rec4 l3 l2 l0 F B = some (r, F9, B9) → zH D ca ad lnC K.2 L F B A H → va_S A s.heap H locs → lv_has ls 5 [(3, .int (iI l3)), (2, .int (iI l2)), (0, .ref (ad 11 l0 0))] → W p l e ({ frames := 0, cells := 0, slots := 0, locals := 0 } : Room) s m args below meth c H locs 0 0 (MQ below (Q_Walker_slowed K D ca ad L r F9 B9 A) args s 0 0 A) (F0 m 4 ls [])) : ∀ {n : Nat} {l4 : Int} {l3 : Int} {l2 : Int} {l0 : Int} {F : zF} {B : zB} {H : Heap} {locs : List Loc} {ls : Array Slot}, f_Walker_slowed_20 rec4 K n l4 l3 l2 l0 F B = some (r, F9, B9) → zH D ca ad lnC K.2 L F B A H → va_S A s.heap H locs → lv_has ls 5 [(4, .int (iI l4)), (3, .int (iI l3)), (2, .int (iI l2)), (0, .ref (ad 11 l0 0))] → W p l e ({ frames := 0, cells := 0, slots := 0, locals := 0 } : Room) s m args below meth c H locs 0 0 (MQ below (Q_Walker_slowed K D ca ad L r F9 B9 A) args s 0 0 A) (F0 m 20 ls []) := by
  obtain ⟨hx, hb, hr, hml, hown, hts, hlk, hK, hA, hL, hX⟩ := id X
  intro n
  induction n with
  | zero =>
    intros
    rename_i hf _ _ _
    cases hf
  | succ n ih =>
    intro l4 l3 l2 l0 F B H locs ls hf hZ hS hl
    replace hf : (if r32 l4 then (if 0 ≤ l4 then rec4 (l3 + 1) l2 l0 F B else if 0 ≤ l3 ∧ l3 < ztl 6 then if ¬ iI (ztv 6 l3) = 0 then if r32 (zrm l2 (ztv 6 l3)) then (if (zrm l2 (ztv 6 l3)) = 0 then f_Walker_slowed_20 rec4 K n (l4 + 1) l3 (zdv l2 (ztv 6 l3)) l0 F B else some ((-1), F, B)) else none else none else none) else none) = some (r, F9, B9) := hf
    refine lv_iload hx hb (D_21 W_prog_13_method_12_code_0 20 rfl rfl) (lv_at hl 0 rfl) ?_
    obtain ⟨g6, hf⟩ := gif hf
    refine z0ge (tgt := 51) hx hb g6 (D_156 W_prog_13_method_12_code_0 22 rfl rfl rfl) (by decide) (fun h7 => ?_) (fun h7 => ?_)
    · replace hf := gpos hf h7
      refine lv_iinc (v := iI (l3 + 1)) (lv' := [(3, .int (iI (l3 + 1))), (4, .int (iI l4)), (2, .int (iI l2)), (0, .ref (ad 11 l0 0))]) hx hb d_13_12_51 hl (k := 1) rfl (iI_add _ 1) (by decide) rfl (fun ls hl => ?_)
      refine lv_goto (tgt := 4) hx hb (D_167 W_prog_13_method_12_code_32 22 rfl rfl rfl) (by decide) ?_
      exact hrec4 hf hZ hS (lv_sub hl [0, 2, 3] rfl)
    · replace hf := gneg hf h7
      refine lv_iload_n hx hb (D_28 W_prog_13_method_12_code_0 25 rfl rfl) rfl (lv_at hl 2 rfl) ?_
      refine va_gets hx hb (hX.2.2.2.2.2.2 6 _ rfl).1 hS hown (hts _ k_4_220) (fun _ h => h) (D_178 W_prog_13_method_12_code_0 26 rfl rfl rfl) ?_
      refine W.eq (g2 := F0 m 29 ls [.ref (vS (1000 + 6)), .int (iI l2)]) rfl ?_
      refine lv_iload_n hx hb (D_29 W_prog_13_method_12_code_0 29 rfl rfl) rfl (lv_at hl 1 rfl) ?_
      obtain ⟨g8, hf⟩ := gif hf
      refine va_ti (v := .int (iI (ztv 6 l3))) hx hb (ztI hX (by decide) (by decide)) hS (zt_in (by decide) g8) (ztI_v (by decide) g8) (D_46 W_prog_13_method_12_code_0 30 rfl rfl) ?_
      obtain ⟨g9, hf⟩ := gif hf
      refine zrm_r hx hb g9 (D_112 W_prog_13_method_12_code_0 31 rfl rfl) ?_
      obtain ⟨g10, hf⟩ := gif hf
      refine z0eq (tgt := 37) hx hb g10 (D_153 W_prog_13_method_12_code_32 0 rfl rfl rfl) (by decide) (fun h11 => ?_) (fun h11 => ?_)
      · replace hf := gpos hf h11
        refine lv_iload_n hx hb (D_28 W_prog_13_method_12_code_32 5 rfl rfl) rfl (lv_at hl 2 rfl) ?_
        refine va_gets hx hb (hX.2.2.2.2.2.2 6 _ rfl).1 hS hown (hts _ k_4_220) (fun _ h => h) (D_178 W_prog_13_method_12_code_32 6 rfl rfl rfl) ?_
        refine W.eq (g2 := F0 m 41 ls [.ref (vS (1000 + 6)), .int (iI l2)]) rfl ?_
        refine lv_iload_n hx hb (D_29 W_prog_13_method_12_code_32 9 rfl rfl) rfl (lv_at hl 1 rfl) ?_
        refine va_ti (v := .int (iI (ztv 6 l3))) hx hb (ztI hX (by decide) (by decide)) hS (zt_in (by decide) g8) (ztI_v (by decide) g8) (D_46 W_prog_13_method_12_code_32 10 rfl rfl) ?_
        refine zdv_r hx hb g9 (D_108 W_prog_13_method_12_code_32 11 rfl rfl) ?_
        refine lv_istore_n (lv' := [(2, .int (iI (zdv l2 (ztv 6 l3)))), (4, .int (iI l4)), (3, .int (iI l3)), (0, .ref (ad 11 l0 0))]) hx hb (D_61 W_prog_13_method_12_code_32 12 rfl rfl) rfl hl (by decide) rfl (fun ls hl => ?_)
        refine lv_iinc (v := iI (l4 + 1)) (lv' := [(4, .int (iI (l4 + 1))), (2, .int (iI (zdv l2 (ztv 6 l3)))), (3, .int (iI l3)), (0, .ref (ad 11 l0 0))]) hx hb d_13_12_45 hl (k := 1) rfl (iI_add _ 1) (by decide) rfl (fun ls hl => ?_)
        refine lv_goto (tgt := 20) hx hb (D_167 W_prog_13_method_12_code_32 16 rfl rfl rfl) (by decide) ?_
        exact ih hf hZ hS (lv_sub hl [0, 2, 1, 3] rfl)
      · replace hf := gneg hf h11
        refine lv_iconst (v := iI (-1)) hx hb (D_2 W_prog_13_method_12_code_32 3 rfl rfl) rfl ?_
        cases hf
        exact W.iret hx hb hr (fun t ht hW => ⟨⟨_, (), rfl, rfl, by rw [ht]; exact hZ, va_K.moved hW.alike hK⟩, hS.F ht⟩) hS.2.2 (D_172 W_prog_13_method_12_code_32 4 rfl rfl) hlk

def f_Walker_slowed_4 (K : zK) : Nat → Int → Int → Int → zF → zB → zO
  | 0, _, _, _, _, _ => none
  | n + 1, l3, l2, l0, F, B => if r32 l3 then if r32 (ztl 6) then (if (ztl 6) ≤ l3 then f_Walker_slowed_59 K K.1 0 l2 l0 F B else if 0 ≤ l0 ∧ l0 < K.2 11 then if 0 ≤ l3 ∧ l3 < 4 then f_Walker_slowed_20 (f_Walker_slowed_4 K n) K K.1 (B 11 l0 14 l3) l3 l2 l0 F B else none else none) else none else none
set_option maxHeartbeats 4000000 in
set_option maxRecDepth 100000 in
theorem b_Walker_slowed_4 {D : va_G} {ca : Nat → ClassId} {ad : Nat → Int → Nat → Nat} {L : List Nat} {aS vS : Nat → Nat} {A : Nat → Prop} {p : Program} {l : Launch} {e : Env} {s : State} {m : MethodId} {args : Array Value} {below : List Frame} {meth : Method} {c : Code} {K : zK} {r : Int} {F9 : zF} {B9 : zB} (X : zX D ca L aS vS A p s m args meth c prog_13_method_12_code 5 (Option.some Jvm.ClassFile.FieldType.int) "StaveHouse$Walker") : ∀ {n : Nat} {l3 : Int} {l2 : Int} {l0 : Int} {F : zF} {B : zB} {H : Heap} {locs : List Loc} {ls : Array Slot}, f_Walker_slowed_4 K n l3 l2 l0 F B = some (r, F9, B9) → zH D ca ad lnC K.2 L F B A H → va_S A s.heap H locs → lv_has ls 5 [(3, .int (iI l3)), (2, .int (iI l2)), (0, .ref (ad 11 l0 0))] → W p l e ({ frames := 0, cells := 0, slots := 0, locals := 0 } : Room) s m args below meth c H locs 0 0 (MQ below (Q_Walker_slowed K D ca ad L r F9 B9 A) args s 0 0 A) (F0 m 4 ls []) := by
  obtain ⟨hx, hb, hr, hml, hown, hts, hlk, hK, hA, hL, hX⟩ := id X
  intro n
  induction n with
  | zero =>
    intros
    rename_i hf _ _ _
    cases hf
  | succ n ih =>
    intro l3 l2 l0 F B H locs ls hf hZ hS hl
    replace hf : (if r32 l3 then if r32 (ztl 6) then (if (ztl 6) ≤ l3 then f_Walker_slowed_59 K K.1 0 l2 l0 F B else if 0 ≤ l0 ∧ l0 < K.2 11 then if 0 ≤ l3 ∧ l3 < 4 then f_Walker_slowed_20 (f_Walker_slowed_4 K n) K K.1 (B 11 l0 14 l3) l3 l2 l0 F B else none else none) else none else none) = some (r, F9, B9) := hf
    refine lv_iload_n hx hb (D_29 W_prog_13_method_12_code_0 4 rfl rfl) rfl (lv_at hl 0 rfl) ?_
    refine va_gets hx hb (hX.2.2.2.2.2.2 6 _ rfl).1 hS hown (hts _ k_4_220) (fun _ h => h) (D_178 W_prog_13_method_12_code_0 5 rfl rfl rfl) ?_
    refine W.eq (g2 := F0 m 8 ls [.ref (vS (1000 + 6)), .int (iI l3)]) rfl ?_
    refine va_tlen (v := iI (ztl 6)) hx hb (ztT hX (by decide)) hS (ztl_n _) (D_190 W_prog_13_method_12_code_0 8 rfl rfl) ?_
    obtain ⟨g1, hf⟩ := gif hf
    obtain ⟨g2, hf⟩ := gif hf
    refine zge (tgt := 57) hx hb g1 g2 (D_162 W_prog_13_method_12_code_0 9 rfl rfl rfl) (by decide) (fun h3 => ?_) (fun h3 => ?_)
    · replace hf := gpos hf h3
      refine lv_iconst (v := iI 0) hx hb (D_3 W_prog_13_method_12_code_32 25 rfl rfl) rfl ?_
      refine lv_istore_n (lv' := [(3, .int (iI 0)), (2, .int (iI l2)), (0, .ref (ad 11 l0 0))]) hx hb (D_62 W_prog_13_method_12_code_32 26 rfl rfl) rfl hl (by decide) rfl (fun ls hl => ?_)
      exact b_Walker_slowed_59 X hf hZ hS (lv_sub hl [0, 1, 2] rfl)
    · replace hf := gneg hf h3
      refine lv_aload_n hx hb (D_42 W_prog_13_method_12_code_0 12 rfl rfl) rfl (lv_at hl 2 rfl) ?_
      obtain ⟨g4, hf⟩ := gif hf
      refine zget (ci := 11) (C := RX11) (T := TX11) (v := .ref (ad 11 l0 (14 + 1))) (k := 14) hx hb hts inW_11 hown hK hZ g4.1 g4.2 rfl (by decide) k_1_204 rfl (D_180 W_prog_13_method_12_code_0 13 rfl rfl rfl) ?_
      refine lv_iload_n hx hb (D_29 W_prog_13_method_12_code_0 16 rfl rfl) rfl (lv_at hl 0 rfl) ?_
      obtain ⟨g5, hf⟩ := gif hf
      refine zald (ci := 11) (k := 14) hx hb hK rfl hZ g4.1 g4.2 rfl (Nat.le_of_ble_eq_true rfl) g5.1 g5.2 (D_46 W_prog_13_method_12_code_0 17 rfl rfl) ?_
      refine lv_istore (lv' := [(4, .int (iI (B 11 l0 14 l3))), (3, .int (iI l3)), (2, .int (iI l2)), (0, .ref (ad 11 l0 0))]) hx hb (D_54 W_prog_13_method_12_code_0 18 rfl rfl) hl (by decide) rfl (fun ls hl => ?_)
      exact b_Walker_slowed_20 X ih hf hZ hS (lv_sub hl [0, 1, 2, 3] rfl)

def f_Walker_slowed (K : zK) (l0 : Int) (l1 : Int) (F : zF) (B : zB) : zO := f_Walker_slowed_4 K K.1 0 l1 l0 F B
set_option maxHeartbeats 4000000 in
set_option maxRecDepth 100000 in
theorem c_Walker_slowed {l : Launch} {D : va_G} {ca : Nat → ClassId} {ad : Nat → Int → Nat → Nat} {L : List Nat} {aS vS : Nat → Nat} {sz : Nat} {K : zK}  {l0 : Int} {l1 : Int} {F F9 : zF} {B B9 : zB} {r : Int} (hf : f_Walker_slowed K l0 l1 F B = some (r, F9, B9)) : Met l ({ cls := "StaveHouse$Walker", name := "slowed", desc := "(I)I" } : Jvm.MethodName) (Cond.code ({ cls := "StaveHouse$Walker", name := "slowed", desc := "(I)I" } : Jvm.MethodName) prog_13_method_12_code 5 (Option.some Jvm.ClassFile.FieldType.int) :: wAll) ({ frames := 0, cells := 0, slots := 0, locals := 0 } : Room) (va_Pc [.ref (ad 11 l0 0), .int (iI l1)] (zPre D ca ad lnC K.2 L aS vS F B sz)) (Q_Walker_slowed K D ca ad L r F9 B9 (zA L sz)) 0 0 (zA L sz) := by
  refine zMet (Qc := Q_Walker_slowed K D ca ad L r F9 B9) (lv := [(0, .ref (ad 11 l0 0)), (1, .int (iI l1))]) (by decide) (Nat.le_of_ble_eq_true rfl) rfl (fun A p e s m below meth c ls X hZ hS hl => ?_)
  obtain ⟨hx, hb, hr, hml, hown, hts, hlk, hK, hA, hL, hX⟩ := id X
  replace hf : (f_Walker_slowed_4 K K.1 0 l1 l0 F B) = some (r, F9, B9) := hf
  refine lv_iload_n hx hb (D_27 W_prog_13_method_12_code_0 0 rfl rfl) rfl (lv_at hl 1 rfl) ?_
  refine lv_istore_n (lv' := [(2, .int (iI l1)), (0, .ref (ad 11 l0 0)), (1, .int (iI l1))]) hx hb (D_61 W_prog_13_method_12_code_0 1 rfl rfl) rfl hl (by decide) rfl (fun ls hl => ?_)
  refine lv_iconst (v := iI 0) hx hb (D_3 W_prog_13_method_12_code_0 2 rfl rfl) rfl ?_
  refine lv_istore_n (lv' := [(3, .int (iI 0)), (2, .int (iI l1)), (0, .ref (ad 11 l0 0)), (1, .int (iI l1))]) hx hb (D_62 W_prog_13_method_12_code_0 3 rfl rfl) rfl hl (by decide) rfl (fun ls hl => ?_)
  exact b_Walker_slowed_4 X hf hZ hS (lv_sub hl [0, 1, 2] rfl)

abbrev Q_Event_insert (K : zK) (D : va_G) (ca : Nat → ClassId) (ad : Nat → Int → Nat → Nat) (L : List Nat) (r : Int) (F : zF) (B : zB) (A : Nat → Prop) : Array Value → State → Outcome → State → Prop := va_Qi (S := Unit) (fun p _ => p = iI r) (fun _ => zPo D ca ad lnC K.2 L F B A) A
def f_Event_insert_75 (K : zK) : Nat → Int → Int → Int → Int → Int → zF → zB → zO
  | 0, _, _, _, _, _, _, _ => none
  | n + 1, l4, l3, l0, l1, l2, F, B => if r32 l4 then if r32 l3 then (if l4 ≤ l3 then if 0 ≤ l0 ∧ l0 < K.2 1 then if 0 ≤ l3 ∧ l3 < 6 then some (1, (zup3 F 1 l0 10 ((F 1 l0 10) + 1)), (zup4 (zup4 B 1 l0 12 l3 l1) 1 l0 13 l3 l2)) else none else none else if 0 ≤ l0 ∧ l0 < K.2 1 then if 0 ≤ (l4 - 1) ∧ (l4 - 1) < 6 then if 0 ≤ l4 ∧ l4 < 6 then f_Event_insert_75 K n (l4 - 1) l3 l0 l1 l2 F (zup4 (zup4 B 1 l0 12 l4 (B 1 l0 12 (l4 - 1))) 1 l0 13 l4 ((zup4 B 1 l0 12 l4 (B 1 l0 12 (l4 - 1))) 1 l0 13 (l4 - 1))) else none else none else none) else none else none
set_option maxHeartbeats 4000000 in
set_option maxRecDepth 100000 in
theorem b_Event_insert_75 {D : va_G} {ca : Nat → ClassId} {ad : Nat → Int → Nat → Nat} {L : List Nat} {aS vS : Nat → Nat} {A : Nat → Prop} {p : Program} {l : Launch} {e : Env} {s : State} {m : MethodId} {args : Array Value} {below : List Frame} {meth : Method} {c : Code} {K : zK} {r : Int} {F9 : zF} {B9 : zB} (X : zX D ca L aS vS A p s m args meth c prog_3_method_5_code 5 (Option.some Jvm.ClassFile.FieldType.boolean) "StaveHouse$Event") : ∀ {n : Nat} {l4 : Int} {l3 : Int} {l0 : Int} {l1 : Int} {l2 : Int} {F : zF} {B : zB} {H : Heap} {locs : List Loc} {ls : Array Slot}, f_Event_insert_75 K n l4 l3 l0 l1 l2 F B = some (r, F9, B9) → zH D ca ad lnC K.2 L F B A H → va_S A s.heap H locs → lv_has ls 5 [(4, .int (iI l4)), (3, .int (iI l3)), (0, .ref (ad 1 l0 0)), (1, .int (iI l1)), (2, .int (iI l2))] → W p l e ({ frames := 0, cells := 0, slots := 0, locals := 0 } : Room) s m args below meth c H locs 0 0 (MQ below (Q_Event_insert K D ca ad L r F9 B9 A) args s 0 0 A) (F0 m 75 ls []) := by
  obtain ⟨hx, hb, hr, hml, hown, hts, hlk, hK, hA, hL, hX⟩ := id X
  intro n
  induction n with
  | zero =>
    intros
    rename_i hf _ _ _
    cases hf
  | succ n ih =>
    intro l4 l3 l0 l1 l2 F B H locs ls hf hZ hS hl
    replace hf : (if r32 l4 then if r32 l3 then (if l4 ≤ l3 then if 0 ≤ l0 ∧ l0 < K.2 1 then if 0 ≤ l3 ∧ l3 < 6 then some (1, (zup3 F 1 l0 10 ((F 1 l0 10) + 1)), (zup4 (zup4 B 1 l0 12 l3 l1) 1 l0 13 l3 l2)) else none else none else if 0 ≤ l0 ∧ l0 < K.2 1 then if 0 ≤ (l4 - 1) ∧ (l4 - 1) < 6 then if 0 ≤ l4 ∧ l4 < 6 then f_Event_insert_75 K n (l4 - 1) l3 l0 l1 l2 F (zup4 (zup4 B 1 l0 12 l4 (B 1 l0 12 (l4 - 1))) 1 l0 13 l4 ((zup4 B 1 l0 12 l4 (B 1 l0 12 (l4 - 1))) 1 l0 13 (l4 - 1))) else none else none else none) else none else none) = some (r, F9, B9) := hf
    refine lv_iload hx hb (D_21 W_prog_3_method_5_code_64 11 rfl rfl) (lv_at hl 0 rfl) ?_
    refine lv_iload_n hx hb (D_29 W_prog_3_method_5_code_64 13 rfl rfl) rfl (lv_at hl 1 rfl) ?_
    obtain ⟨g20, hf⟩ := gif hf
    obtain ⟨g21, hf⟩ := gif hf
    refine zle (tgt := 119) hx hb g20 g21 (D_164 W_prog_3_method_5_code_64 14 rfl rfl rfl) (by decide) (fun h22 => ?_) (fun h22 => ?_)
    · replace hf := gpos hf h22
      refine lv_aload_n hx hb (D_42 W_prog_3_method_5_code_96 23 rfl rfl) rfl (lv_at hl 2 rfl) ?_
      obtain ⟨g23, hf⟩ := gif hf
      refine zget (ci := 1) (C := RX1) (T := TX1) (v := .ref (ad 1 l0 (12 + 1))) (k := 12) hx hb hts inW_1 hown hK hZ g23.1 g23.2 rfl (by decide) k_2_57 rfl (D_180 W_prog_3_method_5_code_96 24 rfl rfl rfl) ?_
      refine lv_iload_n hx hb (D_29 W_prog_3_method_5_code_96 27 rfl rfl) rfl (lv_at hl 1 rfl) ?_
      refine lv_iload_n hx hb (D_27 W_prog_3_method_5_code_96 28 rfl rfl) rfl (lv_at hl 3 rfl) ?_
      obtain ⟨g24, hf⟩ := gif hf
      refine zast (ci := 1) (k := 12) hx hb hK rfl hZ hS g23.1 g23.2 rfl (Nat.le_of_ble_eq_true rfl) g24.1 g24.2 (D_79 W_prog_3_method_5_code_96 29 rfl rfl) (fun H25 locs25 hZ25 hS25 => ?_)
      refine lv_aload_n hx hb (D_42 W_prog_3_method_5_code_96 30 rfl rfl) rfl (lv_at hl 2 rfl) ?_
      refine zget (ci := 1) (C := RX1) (T := TX1) (v := .ref (ad 1 l0 (13 + 1))) (k := 13) hx hb hts inW_1 hown hK hZ25 g23.1 g23.2 rfl (by decide) k_2_63 rfl (D_180 W_prog_3_method_5_code_96 31 rfl rfl rfl) ?_
      refine lv_iload_n hx hb (D_29 W_prog_3_method_5_code_128 2 rfl rfl) rfl (lv_at hl 1 rfl) ?_
      refine lv_iload_n hx hb (D_28 W_prog_3_method_5_code_128 3 rfl rfl) rfl (lv_at hl 4 rfl) ?_
      refine zast (ci := 1) (k := 13) hx hb hK rfl hZ25 hS25 g23.1 g23.2 rfl (Nat.le_of_ble_eq_true rfl) g24.1 g24.2 (D_79 W_prog_3_method_5_code_128 4 rfl rfl) (fun H26 locs26 hZ26 hS26 => ?_)
      refine lv_aload_n hx hb (D_42 W_prog_3_method_5_code_128 5 rfl rfl) rfl (lv_at hl 2 rfl) ?_
      refine lv_dup hx hb (D_89 W_prog_3_method_5_code_128 6 rfl rfl) rfl ?_
      refine zget (ci := 1) (C := RX1) (T := TX1) (v := .int (iI (F 1 l0 10))) (k := 10) hx hb hts inW_1 hown hK hZ26 g23.1 g23.2 rfl (by decide) k_2_48 rfl (D_180 W_prog_3_method_5_code_128 7 rfl rfl rfl) ?_
      refine lv_iconst (v := iI 1) hx hb (D_4 W_prog_3_method_5_code_128 10 rfl rfl) rfl ?_
      refine zadd hx hb (D_96 W_prog_3_method_5_code_128 11 rfl rfl) ?_
      refine zput (ci := 1) (C := RX1) (T := TX1) (k := 10) (v := ((F 1 l0 10) + 1)) (w := .int (iI ((F 1 l0 10) + 1))) hx hb hts inW_1 tyX1 tyX1_ok nmX1 hown hK hZ26 hS26 g23.1 g23.2 rfl (by decide) k_2_48 rfl (fun G h => congrArg (fun q => Value.int (iI q)) h) rfl rfl (zno (by decide)) (D_181 W_prog_3_method_5_code_128 12 rfl rfl rfl) (fun H27 locs27 hZ27 hS27 => ?_)
      refine lv_iconst (v := iI 1) hx hb (D_4 W_prog_3_method_5_code_128 15 rfl rfl) rfl ?_
      cases hf
      exact W.zret hx hb hr rfl (fun t ht hW => ⟨⟨_, (), rfl, rfl, by rw [ht]; exact hZ27, va_K.moved hW.alike hK⟩, hS27.F ht⟩) hS27.2.2 (D_172 W_prog_3_method_5_code_128 16 rfl rfl) hlk
    · replace hf := gneg hf h22
      refine lv_aload_n hx hb (D_42 W_prog_3_method_5_code_64 17 rfl rfl) rfl (lv_at hl 2 rfl) ?_
      obtain ⟨g28, hf⟩ := gif hf
      refine zget (ci := 1) (C := RX1) (T := TX1) (v := .ref (ad 1 l0 (12 + 1))) (k := 12) hx hb hts inW_1 hown hK hZ g28.1 g28.2 rfl (by decide) k_2_57 rfl (D_180 W_prog_3_method_5_code_64 18 rfl rfl rfl) ?_
      refine lv_iload hx hb (D_21 W_prog_3_method_5_code_64 21 rfl rfl) (lv_at hl 0 rfl) ?_
      refine lv_aload_n hx hb (D_42 W_prog_3_method_5_code_64 23 rfl rfl) rfl (lv_at hl 2 rfl) ?_
      refine zget (ci := 1) (C := RX1) (T := TX1) (v := .ref (ad 1 l0 (12 + 1))) (k := 12) hx hb hts inW_1 hown hK hZ g28.1 g28.2 rfl (by decide) k_2_57 rfl (D_180 W_prog_3_method_5_code_64 24 rfl rfl rfl) ?_
      refine lv_iload hx hb (D_21 W_prog_3_method_5_code_64 27 rfl rfl) (lv_at hl 0 rfl) ?_
      refine lv_iconst (v := iI 1) hx hb (D_4 W_prog_3_method_5_code_64 29 rfl rfl) rfl ?_
      refine zsub hx hb (D_100 W_prog_3_method_5_code_64 30 rfl rfl) ?_
      obtain ⟨g29, hf⟩ := gif hf
      refine zald (ci := 1) (k := 12) hx hb hK rfl hZ g28.1 g28.2 rfl (Nat.le_of_ble_eq_true rfl) g29.1 g29.2 (D_46 W_prog_3_method_5_code_64 31 rfl rfl) ?_
      obtain ⟨g30, hf⟩ := gif hf
      refine zast (ci := 1) (k := 12) hx hb hK rfl hZ hS g28.1 g28.2 rfl (Nat.le_of_ble_eq_true rfl) g30.1 g30.2 (D_79 W_prog_3_method_5_code_96 0 rfl rfl) (fun H31 locs31 hZ31 hS31 => ?_)
      refine lv_aload_n hx hb (D_42 W_prog_3_method_5_code_96 1 rfl rfl) rfl (lv_at hl 2 rfl) ?_
      refine zget (ci := 1) (C := RX1) (T := TX1) (v := .ref (ad 1 l0 (13 + 1))) (k := 13) hx hb hts inW_1 hown hK hZ31 g28.1 g28.2 rfl (by decide) k_2_63 rfl (D_180 W_prog_3_method_5_code_96 2 rfl rfl rfl) ?_
      refine lv_iload hx hb (D_21 W_prog_3_method_5_code_96 5 rfl rfl) (lv_at hl 0 rfl) ?_
      refine lv_aload_n hx hb (D_42 W_prog_3_method_5_code_96 7 rfl rfl) rfl (lv_at hl 2 rfl) ?_
      refine zget (ci := 1) (C := RX1) (T := TX1) (v := .ref (ad 1 l0 (13 + 1))) (k := 13) hx hb hts inW_1 hown hK hZ31 g28.1 g28.2 rfl (by decide) k_2_63 rfl (D_180 W_prog_3_method_5_code_96 8 rfl rfl rfl) ?_
      refine lv_iload hx hb (D_21 W_prog_3_method_5_code_96 11 rfl rfl) (lv_at hl 0 rfl) ?_
      refine lv_iconst (v := iI 1) hx hb (D_4 W_prog_3_method_5_code_96 13 rfl rfl) rfl ?_
      refine zsub hx hb (D_100 W_prog_3_method_5_code_96 14 rfl rfl) ?_
      refine zald (ci := 1) (k := 13) hx hb hK rfl hZ31 g28.1 g28.2 rfl (Nat.le_of_ble_eq_true rfl) g29.1 g29.2 (D_46 W_prog_3_method_5_code_96 15 rfl rfl) ?_
      refine zast (ci := 1) (k := 13) hx hb hK rfl hZ31 hS31 g28.1 g28.2 rfl (Nat.le_of_ble_eq_true rfl) g30.1 g30.2 (D_79 W_prog_3_method_5_code_96 16 rfl rfl) (fun H33 locs33 hZ33 hS33 => ?_)
      refine lv_iinc (v := iI (l4 - 1)) (lv' := [(4, .int (iI (l4 - 1))), (3, .int (iI l3)), (0, .ref (ad 1 l0 0)), (1, .int (iI l1)), (2, .int (iI l2))]) hx hb d_3_5_113 hl (k := 0) rfl (by rw [show Int32.ofInt (-1) = iI (-1) from rfl, iI_add]; congr 1) (by decide) rfl (fun ls hl => ?_)
      refine lv_goto (tgt := 75) hx hb (D_167 W_prog_3_method_5_code_96 20 rfl rfl rfl) (by decide) ?_
      exact ih hf hZ33 hS33 (lv_sub hl [0, 1, 2, 3, 4] rfl)

def f_Event_insert_69 (K : zK) (l3 : Int) (l0 : Int) (l1 : Int) (l2 : Int) (F : zF) (B : zB) : zO := if 0 ≤ l0 ∧ l0 < K.2 1 then f_Event_insert_75 K K.1 (F 1 l0 10) l3 l0 l1 l2 F B else none
set_option maxHeartbeats 4000000 in
set_option maxRecDepth 100000 in
theorem b_Event_insert_69 {D : va_G} {ca : Nat → ClassId} {ad : Nat → Int → Nat → Nat} {L : List Nat} {aS vS : Nat → Nat} {A : Nat → Prop} {p : Program} {l : Launch} {e : Env} {s : State} {m : MethodId} {args : Array Value} {below : List Frame} {meth : Method} {c : Code} {K : zK} {r : Int} {F9 : zF} {B9 : zB} (X : zX D ca L aS vS A p s m args meth c prog_3_method_5_code 5 (Option.some Jvm.ClassFile.FieldType.boolean) "StaveHouse$Event") {l3 : Int} {l0 : Int} {l1 : Int} {l2 : Int} {F : zF} {B : zB} {H : Heap} {locs : List Loc} {ls : Array Slot} (hf : f_Event_insert_69 K l3 l0 l1 l2 F B = some (r, F9, B9)) (hZ : zH D ca ad lnC K.2 L F B A H) (hS : va_S A s.heap H locs) (hl : lv_has ls 5 [(3, .int (iI l3)), (0, .ref (ad 1 l0 0)), (1, .int (iI l1)), (2, .int (iI l2))]) : W p l e ({ frames := 0, cells := 0, slots := 0, locals := 0 } : Room) s m args below meth c H locs 0 0 (MQ below (Q_Event_insert K D ca ad L r F9 B9 A) args s 0 0 A) (F0 m 69 ls []) := by
  obtain ⟨hx, hb, hr, hml, hown, hts, hlk, hK, hA, hL, hX⟩ := id X
  replace hf : (if 0 ≤ l0 ∧ l0 < K.2 1 then f_Event_insert_75 K K.1 (F 1 l0 10) l3 l0 l1 l2 F B else none) = some (r, F9, B9) := hf
  refine lv_aload_n hx hb (D_42 W_prog_3_method_5_code_64 5 rfl rfl) rfl (lv_at hl 1 rfl) ?_
  obtain ⟨g19, hf⟩ := gif hf
  refine zget (ci := 1) (C := RX1) (T := TX1) (v := .int (iI (F 1 l0 10))) (k := 10) hx hb hts inW_1 hown hK hZ g19.1 g19.2 rfl (by decide) k_2_48 rfl (D_180 W_prog_3_method_5_code_64 6 rfl rfl rfl) ?_
  refine lv_istore (lv' := [(4, .int (iI (F 1 l0 10))), (3, .int (iI l3)), (0, .ref (ad 1 l0 0)), (1, .int (iI l1)), (2, .int (iI l2))]) hx hb (D_54 W_prog_3_method_5_code_64 9 rfl rfl) hl (by decide) rfl (fun ls hl => ?_)
  exact b_Event_insert_75 X hf hZ hS (lv_sub hl [0, 1, 2, 3, 4] rfl)

def f_Event_insert_49 (K : zK) (l3 : Int) (l0 : Int) (l1 : Int) (l2 : Int) (F : zF) (B : zB) : zO := if 0 ≤ l0 ∧ l0 < K.2 1 then if r32 l3 then if r32 (F 1 l0 10) then (if (F 1 l0 10) ≤ l3 then f_Event_insert_69 K l3 l0 l1 l2 F B else if 0 ≤ l3 ∧ l3 < 6 then if r32 (B 1 l0 12 l3) then if r32 l1 then (if (B 1 l0 12 l3) = l1 then some (0, F, B) else f_Event_insert_69 K l3 l0 l1 l2 F B) else none else none else none) else none else none else none
set_option maxHeartbeats 4000000 in
set_option maxRecDepth 100000 in
theorem b_Event_insert_49 {D : va_G} {ca : Nat → ClassId} {ad : Nat → Int → Nat → Nat} {L : List Nat} {aS vS : Nat → Nat} {A : Nat → Prop} {p : Program} {l : Launch} {e : Env} {s : State} {m : MethodId} {args : Array Value} {below : List Frame} {meth : Method} {c : Code} {K : zK} {r : Int} {F9 : zF} {B9 : zB} (X : zX D ca L aS vS A p s m args meth c prog_3_method_5_code 5 (Option.some Jvm.ClassFile.FieldType.boolean) "StaveHouse$Event") {l3 : Int} {l0 : Int} {l1 : Int} {l2 : Int} {F : zF} {B : zB} {H : Heap} {locs : List Loc} {ls : Array Slot} (hf : f_Event_insert_49 K l3 l0 l1 l2 F B = some (r, F9, B9)) (hZ : zH D ca ad lnC K.2 L F B A H) (hS : va_S A s.heap H locs) (hl : lv_has ls 5 [(3, .int (iI l3)), (0, .ref (ad 1 l0 0)), (1, .int (iI l1)), (2, .int (iI l2))]) : W p l e ({ frames := 0, cells := 0, slots := 0, locals := 0 } : Room) s m args below meth c H locs 0 0 (MQ below (Q_Event_insert K D ca ad L r F9 B9 A) args s 0 0 A) (F0 m 49 ls []) := by
  obtain ⟨hx, hb, hr, hml, hown, hts, hlk, hK, hA, hL, hX⟩ := id X
  replace hf : (if 0 ≤ l0 ∧ l0 < K.2 1 then if r32 l3 then if r32 (F 1 l0 10) then (if (F 1 l0 10) ≤ l3 then f_Event_insert_69 K l3 l0 l1 l2 F B else if 0 ≤ l3 ∧ l3 < 6 then if r32 (B 1 l0 12 l3) then if r32 l1 then (if (B 1 l0 12 l3) = l1 then some (0, F, B) else f_Event_insert_69 K l3 l0 l1 l2 F B) else none else none else none) else none else none else none) = some (r, F9, B9) := hf
  refine lv_iload_n hx hb (D_29 W_prog_3_method_5_code_32 17 rfl rfl) rfl (lv_at hl 0 rfl) ?_
  refine lv_aload_n hx hb (D_42 W_prog_3_method_5_code_32 18 rfl rfl) rfl (lv_at hl 1 rfl) ?_
  obtain ⟨g11, hf⟩ := gif hf
  refine zget (ci := 1) (C := RX1) (T := TX1) (v := .int (iI (F 1 l0 10))) (k := 10) hx hb hts inW_1 hown hK hZ g11.1 g11.2 rfl (by decide) k_2_48 rfl (D_180 W_prog_3_method_5_code_32 19 rfl rfl rfl) ?_
  obtain ⟨g12, hf⟩ := gif hf
  obtain ⟨g13, hf⟩ := gif hf
  refine zge (tgt := 69) hx hb g12 g13 (D_162 W_prog_3_method_5_code_32 22 rfl rfl rfl) (by decide) (fun h14 => ?_) (fun h14 => ?_)
  · replace hf := gpos hf h14
    exact b_Event_insert_69 X hf hZ hS (lv_sub hl [0, 1, 2, 3] rfl)
  · replace hf := gneg hf h14
    refine lv_aload_n hx hb (D_42 W_prog_3_method_5_code_32 25 rfl rfl) rfl (lv_at hl 1 rfl) ?_
    refine zget (ci := 1) (C := RX1) (T := TX1) (v := .ref (ad 1 l0 (12 + 1))) (k := 12) hx hb hts inW_1 hown hK hZ g11.1 g11.2 rfl (by decide) k_2_57 rfl (D_180 W_prog_3_method_5_code_32 26 rfl rfl rfl) ?_
    refine lv_iload_n hx hb (D_29 W_prog_3_method_5_code_32 29 rfl rfl) rfl (lv_at hl 0 rfl) ?_
    obtain ⟨g15, hf⟩ := gif hf
    refine zald (ci := 1) (k := 12) hx hb hK rfl hZ g11.1 g11.2 rfl (Nat.le_of_ble_eq_true rfl) g15.1 g15.2 (D_46 W_prog_3_method_5_code_32 30 rfl rfl) ?_
    refine lv_iload_n hx hb (D_27 W_prog_3_method_5_code_32 31 rfl rfl) rfl (lv_at hl 2 rfl) ?_
    obtain ⟨g16, hf⟩ := gif hf
    obtain ⟨g17, hf⟩ := gif hf
    refine zne (tgt := 69) hx hb g16 g17 (D_160 W_prog_3_method_5_code_64 0 rfl rfl rfl) (by decide) (fun h18 => ?_) (fun h18 => ?_)
    · replace hf := gneg hf h18
      exact b_Event_insert_69 X hf hZ hS (lv_sub hl [0, 1, 2, 3] rfl)
    · replace hf := gpos hf h18
      refine lv_iconst (v := iI 0) hx hb (D_3 W_prog_3_method_5_code_64 3 rfl rfl) rfl ?_
      cases hf
      exact W.zret hx hb hr rfl (fun t ht hW => ⟨⟨_, (), rfl, rfl, by rw [ht]; exact hZ, va_K.moved hW.alike hK⟩, hS.F ht⟩) hS.2.2 (D_172 W_prog_3_method_5_code_64 4 rfl rfl) hlk

def f_Event_insert_24 (K : zK) : Nat → Int → Int → Int → Int → Int → zF → zB → zO
  | 0, _, _, _, _, _, _, _ => none
  | n + 1, l4, l3, l0, l1, l2, F, B => if r32 l4 then (if l4 < 0 then f_Event_insert_49 K l3 l0 l1 l2 F B else if 0 ≤ l0 ∧ l0 < K.2 1 then if 0 ≤ l4 ∧ l4 < 6 then if r32 (B 1 l0 12 l4) then if r32 l1 then (if (B 1 l0 12 l4) < l1 then f_Event_insert_49 K l3 l0 l1 l2 F B else f_Event_insert_24 K n (l4 - 1) l4 l0 l1 l2 F B) else none else none else none else none) else none
set_option maxHeartbeats 4000000 in
set_option maxRecDepth 100000 in
theorem b_Event_insert_24 {D : va_G} {ca : Nat → ClassId} {ad : Nat → Int → Nat → Nat} {L : List Nat} {aS vS : Nat → Nat} {A : Nat → Prop} {p : Program} {l : Launch} {e : Env} {s : State} {m : MethodId} {args : Array Value} {below : List Frame} {meth : Method} {c : Code} {K : zK} {r : Int} {F9 : zF} {B9 : zB} (X : zX D ca L aS vS A p s m args meth c prog_3_method_5_code 5 (Option.some Jvm.ClassFile.FieldType.boolean) "StaveHouse$Event") : ∀ {n : Nat} {l4 : Int} {l3 : Int} {l0 : Int} {l1 : Int} {l2 : Int} {F : zF} {B : zB} {H : Heap} {locs : List Loc} {ls : Array Slot}, f_Event_insert_24 K n l4 l3 l0 l1 l2 F B = some (r, F9, B9) → zH D ca ad lnC K.2 L F B A H → va_S A s.heap H locs → lv_has ls 5 [(4, .int (iI l4)), (3, .int (iI l3)), (0, .ref (ad 1 l0 0)), (1, .int (iI l1)), (2, .int (iI l2))] → W p l e ({ frames := 0, cells := 0, slots := 0, locals := 0 } : Room) s m args below meth c H locs 0 0 (MQ below (Q_Event_insert K D ca ad L r F9 B9 A) args s 0 0 A) (F0 m 24 ls []) := by
  obtain ⟨hx, hb, hr, hml, hown, hts, hlk, hK, hA, hL, hX⟩ := id X
  intro n
  induction n with
  | zero =>
    intros
    rename_i hf _ _ _
    cases hf
  | succ n ih =>
    intro l4 l3 l0 l1 l2 F B H locs ls hf hZ hS hl
    replace hf : (if r32 l4 then (if l4 < 0 then f_Event_insert_49 K l3 l0 l1 l2 F B else if 0 ≤ l0 ∧ l0 < K.2 1 then if 0 ≤ l4 ∧ l4 < 6 then if r32 (B 1 l0 12 l4) then if r32 l1 then (if (B 1 l0 12 l4) < l1 then f_Event_insert_49 K l3 l0 l1 l2 F B else f_Event_insert_24 K n (l4 - 1) l4 l0 l1 l2 F B) else none else none else none else none) else none) = some (r, F9, B9) := hf
    refine lv_iload hx hb (D_21 W_prog_3_method_5_code_0 24 rfl rfl) (lv_at hl 0 rfl) ?_
    obtain ⟨g4, hf⟩ := gif hf
    refine z0lt (tgt := 49) hx hb g4 (D_155 W_prog_3_method_5_code_0 26 rfl rfl rfl) (by decide) (fun h5 => ?_) (fun h5 => ?_)
    · replace hf := gpos hf h5
      exact b_Event_insert_49 X hf hZ hS (lv_sub hl [1, 2, 3, 4] rfl)
    · replace hf := gneg hf h5
      refine lv_aload_n hx hb (D_42 W_prog_3_method_5_code_0 29 rfl rfl) rfl (lv_at hl 2 rfl) ?_
      obtain ⟨g6, hf⟩ := gif hf
      refine zget (ci := 1) (C := RX1) (T := TX1) (v := .ref (ad 1 l0 (12 + 1))) (k := 12) hx hb hts inW_1 hown hK hZ g6.1 g6.2 rfl (by decide) k_2_57 rfl (D_180 W_prog_3_method_5_code_0 30 rfl rfl rfl) ?_
      refine lv_iload hx hb (D_21 W_prog_3_method_5_code_32 1 rfl rfl) (lv_at hl 0 rfl) ?_
      obtain ⟨g7, hf⟩ := gif hf
      refine zald (ci := 1) (k := 12) hx hb hK rfl hZ g6.1 g6.2 rfl (Nat.le_of_ble_eq_true rfl) g7.1 g7.2 (D_46 W_prog_3_method_5_code_32 3 rfl rfl) ?_
      refine lv_iload_n hx hb (D_27 W_prog_3_method_5_code_32 4 rfl rfl) rfl (lv_at hl 3 rfl) ?_
      obtain ⟨g8, hf⟩ := gif hf
      obtain ⟨g9, hf⟩ := gif hf
      refine zlt (tgt := 49) hx hb g8 g9 (D_161 W_prog_3_method_5_code_32 5 rfl rfl rfl) (by decide) (fun h10 => ?_) (fun h10 => ?_)
      · replace hf := gpos hf h10
        exact b_Event_insert_49 X hf hZ hS (lv_sub hl [1, 2, 3, 4] rfl)
      · replace hf := gneg hf h10
        refine lv_iload hx hb (D_21 W_prog_3_method_5_code_32 8 rfl rfl) (lv_at hl 0 rfl) ?_
        refine lv_istore_n (lv' := [(3, .int (iI l4)), (4, .int (iI l4)), (0, .ref (ad 1 l0 0)), (1, .int (iI l1)), (2, .int (iI l2))]) hx hb (D_62 W_prog_3_method_5_code_32 10 rfl rfl) rfl hl (by decide) rfl (fun ls hl => ?_)
        refine lv_iinc (v := iI (l4 - 1)) (lv' := [(4, .int (iI (l4 - 1))), (3, .int (iI l4)), (0, .ref (ad 1 l0 0)), (1, .int (iI l1)), (2, .int (iI l2))]) hx hb d_3_5_43 hl (k := 1) rfl (by rw [show Int32.ofInt (-1) = iI (-1) from rfl, iI_add]; congr 1) (by decide) rfl (fun ls hl => ?_)
        refine lv_goto (tgt := 24) hx hb (D_167 W_prog_3_method_5_code_32 14 rfl rfl rfl) (by decide) ?_
        exact ih hf hZ hS (lv_sub hl [0, 1, 2, 3, 4] rfl)

def f_Event_insert (K : zK) (l0 : Int) (l1 : Int) (l2 : Int) (F : zF) (B : zB) : zO := if 0 ≤ l0 ∧ l0 < K.2 1 then if r32 (F 1 l0 10) then (if (F 1 l0 10) < 6 then f_Event_insert_24 K K.1 ((F 1 l0 10) - 1) (F 1 l0 10) l0 l1 l2 F B else some (0, F, B)) else none else none
set_option maxHeartbeats 4000000 in
set_option maxRecDepth 100000 in
theorem c_Event_insert {l : Launch} {D : va_G} {ca : Nat → ClassId} {ad : Nat → Int → Nat → Nat} {L : List Nat} {aS vS : Nat → Nat} {sz : Nat} {K : zK}  {l0 : Int} {l1 : Int} {l2 : Int} {F F9 : zF} {B B9 : zB} {r : Int} (hf : f_Event_insert K l0 l1 l2 F B = some (r, F9, B9)) : Met l ({ cls := "StaveHouse$Event", name := "insert", desc := "(II)Z" } : Jvm.MethodName) (Cond.code ({ cls := "StaveHouse$Event", name := "insert", desc := "(II)Z" } : Jvm.MethodName) prog_3_method_5_code 5 (Option.some Jvm.ClassFile.FieldType.boolean) :: wAll) ({ frames := 0, cells := 0, slots := 0, locals := 0 } : Room) (va_Pc [.ref (ad 1 l0 0), .int (iI l1), .int (iI l2)] (zPre D ca ad lnC K.2 L aS vS F B sz)) (Q_Event_insert K D ca ad L r F9 B9 (zA L sz)) 0 0 (zA L sz) := by
  refine zMet (Qc := Q_Event_insert K D ca ad L r F9 B9) (lv := [(0, .ref (ad 1 l0 0)), (1, .int (iI l1)), (2, .int (iI l2))]) (by decide) (Nat.le_of_ble_eq_true rfl) rfl (fun A p e s m below meth c ls X hZ hS hl => ?_)
  obtain ⟨hx, hb, hr, hml, hown, hts, hlk, hK, hA, hL, hX⟩ := id X
  replace hf : (if 0 ≤ l0 ∧ l0 < K.2 1 then if r32 (F 1 l0 10) then (if (F 1 l0 10) < 6 then f_Event_insert_24 K K.1 ((F 1 l0 10) - 1) (F 1 l0 10) l0 l1 l2 F B else some (0, F, B)) else none else none) = some (r, F9, B9) := hf
  refine lv_aload_n hx hb (D_42 W_prog_3_method_5_code_0 0 rfl rfl) rfl (lv_at hl 0 rfl) ?_
  obtain ⟨g1, hf⟩ := gif hf
  refine zget (ci := 1) (C := RX1) (T := TX1) (v := .int (iI (F 1 l0 10))) (k := 10) hx hb hts inW_1 hown hK hZ g1.1 g1.2 rfl (by decide) k_2_48 rfl (D_180 W_prog_3_method_5_code_0 1 rfl rfl rfl) ?_
  refine lv_bipush (v := iI 6) hx hb (D_16 W_prog_3_method_5_code_0 4 rfl rfl rfl) (by decide) ?_
  obtain ⟨g2, hf⟩ := gif hf
  refine zlt (tgt := 11) hx hb g2 (by decide) (D_161 W_prog_3_method_5_code_0 6 rfl rfl rfl) (by decide) (fun h3 => ?_) (fun h3 => ?_)
  · replace hf := gpos hf h3
    refine lv_aload_n hx hb (D_42 W_prog_3_method_5_code_0 11 rfl rfl) rfl (lv_at hl 0 rfl) ?_
    refine zget (ci := 1) (C := RX1) (T := TX1) (v := .int (iI (F 1 l0 10))) (k := 10) hx hb hts inW_1 hown hK hZ g1.1 g1.2 rfl (by decide) k_2_48 rfl (D_180 W_prog_3_method_5_code_0 12 rfl rfl rfl) ?_
    refine lv_istore_n (lv' := [(3, .int (iI (F 1 l0 10))), (0, .ref (ad 1 l0 0)), (1, .int (iI l1)), (2, .int (iI l2))]) hx hb (D_62 W_prog_3_method_5_code_0 15 rfl rfl) rfl hl (by decide) rfl (fun ls hl => ?_)
    refine lv_aload_n hx hb (D_42 W_prog_3_method_5_code_0 16 rfl rfl) rfl (lv_at hl 1 rfl) ?_
    refine zget (ci := 1) (C := RX1) (T := TX1) (v := .int (iI (F 1 l0 10))) (k := 10) hx hb hts inW_1 hown hK hZ g1.1 g1.2 rfl (by decide) k_2_48 rfl (D_180 W_prog_3_method_5_code_0 17 rfl rfl rfl) ?_
    refine lv_iconst (v := iI 1) hx hb (D_4 W_prog_3_method_5_code_0 20 rfl rfl) rfl ?_
    refine zsub hx hb (D_100 W_prog_3_method_5_code_0 21 rfl rfl) ?_
    refine lv_istore (lv' := [(4, .int (iI ((F 1 l0 10) - 1))), (3, .int (iI (F 1 l0 10))), (0, .ref (ad 1 l0 0)), (1, .int (iI l1)), (2, .int (iI l2))]) hx hb (D_54 W_prog_3_method_5_code_0 22 rfl rfl) hl (by decide) rfl (fun ls hl => ?_)
    exact b_Event_insert_24 X hf hZ hS (lv_sub hl [0, 1, 2, 3, 4] rfl)
  · replace hf := gneg hf h3
    refine lv_iconst (v := iI 0) hx hb (D_3 W_prog_3_method_5_code_0 9 rfl rfl) rfl ?_
    cases hf
    exact W.zret hx hb hr rfl (fun t ht hW => ⟨⟨_, (), rfl, rfl, by rw [ht]; exact hZ, va_K.moved hW.alike hK⟩, hS.F ht⟩) hS.2.2 (D_172 W_prog_3_method_5_code_0 10 rfl rfl) hlk

abbrev Q_Event_has (K : zK) (D : va_G) (ca : Nat → ClassId) (ad : Nat → Int → Nat → Nat) (L : List Nat) (r : Int) (F : zF) (B : zB) (A : Nat → Prop) : Array Value → State → Outcome → State → Prop := va_Qi (S := Unit) (fun p _ => p = iI r) (fun _ => zPo D ca ad lnC K.2 L F B A) A
def f_Event_has_14 (K : zK) (s0 : Int) (F : zF) (B : zB) : zO := if (s0 = 0 ∨ s0 = 1) then some (s0, F, B) else none
set_option maxHeartbeats 4000000 in
set_option maxRecDepth 100000 in
theorem b_Event_has_14 {D : va_G} {ca : Nat → ClassId} {ad : Nat → Int → Nat → Nat} {L : List Nat} {aS vS : Nat → Nat} {A : Nat → Prop} {p : Program} {l : Launch} {e : Env} {s : State} {m : MethodId} {args : Array Value} {below : List Frame} {meth : Method} {c : Code} {K : zK} {r : Int} {F9 : zF} {B9 : zB} (X : zX D ca L aS vS A p s m args meth c prog_3_method_3_code 2 (Option.some Jvm.ClassFile.FieldType.boolean) "StaveHouse$Event") {s0 : Int} {F : zF} {B : zB} {H : Heap} {locs : List Loc} {ls : Array Slot} (hf : f_Event_has_14 K s0 F B = some (r, F9, B9)) (hZ : zH D ca ad lnC K.2 L F B A H) (hS : va_S A s.heap H locs) (hl : lv_has ls 2 []) : W p l e ({ frames := 0, cells := 0, slots := 0, locals := 0 } : Room) s m args below meth c H locs 0 0 (MQ below (Q_Event_has K D ca ad L r F9 B9 A) args s 0 0 A) (F0 m 14 ls [.int (iI s0)]) := by
  obtain ⟨hx, hb, hr, hml, hown, hts, hlk, hK, hA, hL, hX⟩ := id X
  replace hf : (if (s0 = 0 ∨ s0 = 1) then some (s0, F, B) else none) = some (r, F9, B9) := hf
  obtain ⟨g4, hf⟩ := gif hf
  cases hf
  exact W.zret hx hb hr (zbool g4) (fun t ht hW => ⟨⟨_, (), rfl, rfl, by rw [ht]; exact hZ, va_K.moved hW.alike hK⟩, hS.F ht⟩) hS.2.2 (D_172 W_prog_3_method_3_code_0 14 rfl rfl) hlk

def f_Event_has (K : zK) (l0 : Int) (l1 : Int) (F : zF) (B : zB) : zO := if 0 ≤ l0 ∧ l0 < K.2 1 then if r32 (zand (F 1 l0 7) l1) then (if (zand (F 1 l0 7) l1) = 0 then f_Event_has_14 K 0 F B else f_Event_has_14 K 1 F B) else none else none
set_option maxHeartbeats 4000000 in
set_option maxRecDepth 100000 in
theorem c_Event_has {l : Launch} {D : va_G} {ca : Nat → ClassId} {ad : Nat → Int → Nat → Nat} {L : List Nat} {aS vS : Nat → Nat} {sz : Nat} {K : zK}  {l0 : Int} {l1 : Int} {F F9 : zF} {B B9 : zB} {r : Int} (hf : f_Event_has K l0 l1 F B = some (r, F9, B9)) : Met l ({ cls := "StaveHouse$Event", name := "has", desc := "(I)Z" } : Jvm.MethodName) (Cond.code ({ cls := "StaveHouse$Event", name := "has", desc := "(I)Z" } : Jvm.MethodName) prog_3_method_3_code 2 (Option.some Jvm.ClassFile.FieldType.boolean) :: wAll) ({ frames := 0, cells := 0, slots := 0, locals := 0 } : Room) (va_Pc [.ref (ad 1 l0 0), .int (iI l1)] (zPre D ca ad lnC K.2 L aS vS F B sz)) (Q_Event_has K D ca ad L r F9 B9 (zA L sz)) 0 0 (zA L sz) := by
  refine zMet (Qc := Q_Event_has K D ca ad L r F9 B9) (lv := [(0, .ref (ad 1 l0 0)), (1, .int (iI l1))]) (by decide) (Nat.le_of_ble_eq_true rfl) rfl (fun A p e s m below meth c ls X hZ hS hl => ?_)
  obtain ⟨hx, hb, hr, hml, hown, hts, hlk, hK, hA, hL, hX⟩ := id X
  replace hf : (if 0 ≤ l0 ∧ l0 < K.2 1 then if r32 (zand (F 1 l0 7) l1) then (if (zand (F 1 l0 7) l1) = 0 then f_Event_has_14 K 0 F B else f_Event_has_14 K 1 F B) else none else none) = some (r, F9, B9) := hf
  refine lv_aload_n hx hb (D_42 W_prog_3_method_3_code_0 0 rfl rfl) rfl (lv_at hl 0 rfl) ?_
  obtain ⟨g1, hf⟩ := gif hf
  refine zget (ci := 1) (C := RX1) (T := TX1) (v := .int (iI (F 1 l0 7))) (k := 7) hx hb hts inW_1 hown hK hZ g1.1 g1.2 rfl (by decide) k_2_38 rfl (D_180 W_prog_3_method_3_code_0 1 rfl rfl rfl) ?_
  refine lv_iload_n hx hb (D_27 W_prog_3_method_3_code_0 4 rfl rfl) rfl (lv_at hl 1 rfl) ?_
  refine zand_r hx hb (D_126 W_prog_3_method_3_code_0 5 rfl rfl) ?_
  obtain ⟨g2, hf⟩ := gif hf
  refine z0eq (tgt := 13) hx hb g2 (D_153 W_prog_3_method_3_code_0 6 rfl rfl rfl) (by decide) (fun h3 => ?_) (fun h3 => ?_)
  · replace hf := gpos hf h3
    refine lv_iconst (v := iI 0) hx hb (D_3 W_prog_3_method_3_code_0 13 rfl rfl) rfl ?_
    exact b_Event_has_14 X hf hZ hS (lv_sub hl [] rfl)
  · replace hf := gneg hf h3
    refine lv_iconst (v := iI 1) hx hb (D_4 W_prog_3_method_3_code_0 9 rfl rfl) rfl ?_
    refine lv_goto (tgt := 14) hx hb (D_167 W_prog_3_method_3_code_0 10 rfl rfl rfl) (by decide) ?_
    exact b_Event_has_14 X hf hZ hS (lv_sub hl [] rfl)

abbrev Q_Walker_multiplySlow (K : zK) (D : va_G) (ca : Nat → ClassId) (ad : Nat → Int → Nat → Nat) (L : List Nat) (r : Int) (F : zF) (B : zB) (A : Nat → Prop) : Array Value → State → Outcome → State → Prop := va_Qv (S := Unit) (fun _ => True) (fun _ => zPo D ca ad lnC K.2 L F B A) A
def f_Walker_multiplySlow_60 (rec5 : Int → Int → Int → Int → zF → zB → zO) (K : zK) (l4 : Int) (l3 : Int) (l0 : Int) (l2 : Int) (F : zF) (B : zB) : zO := rec5 (l4 + 1) l3 l0 l2 F B
set_option maxHeartbeats 4000000 in
set_option maxRecDepth 100000 in
theorem b_Walker_multiplySlow_60 {D : va_G} {ca : Nat → ClassId} {ad : Nat → Int → Nat → Nat} {L : List Nat} {aS vS : Nat → Nat} {A : Nat → Prop} {p : Program} {l : Launch} {e : Env} {s : State} {m : MethodId} {args : Array Value} {below : List Frame} {meth : Method} {c : Code} {K : zK} {r : Int} {F9 : zF} {B9 : zB} (X : zX D ca L aS vS A p s m args meth c prog_13_method_11_code 6 (Option.none : Option Jvm.ClassFile.FieldType) "StaveHouse$Walker") {rec5 : Int → Int → Int → Int → zF → zB → zO} (hrec5 : ∀ {l4 : Int} {l3 : Int} {l0 : Int} {l2 : Int} {F : zF} {B : zB} {H : Heap} {locs : List Loc} {ls : Array Slot}, rec5 l4 l3 l0 l2 F B = some (r, F9, B9) → zH D ca ad lnC K.2 L F B A H → va_S A s.heap H locs → lv_has ls 6 [(4, .int (iI l4)), (3, .int (iI l3)), (0, .ref (ad 11 l0 0)), (2, .int (iI l2))] → W p l e ({ frames := 0, cells := 0, slots := 0, locals := 0 } : Room) s m args below meth c H locs 0 0 (MQ below (Q_Walker_multiplySlow K D ca ad L r F9 B9 A) args s 0 0 A) (F0 m 5 ls [])) {l4 : Int} {l3 : Int} {l0 : Int} {l2 : Int} {F : zF} {B : zB} {H : Heap} {locs : List Loc} {ls : Array Slot} (hf : f_Walker_multiplySlow_60 rec5 K l4 l3 l0 l2 F B = some (r, F9, B9)) (hZ : zH D ca ad lnC K.2 L F B A H) (hS : va_S A s.heap H locs) (hl : lv_has ls 6 [(4, .int (iI l4)), (3, .int (iI l3)), (0, .ref (ad 11 l0 0)), (2, .int (iI l2))]) : W p l e ({ frames := 0, cells := 0, slots := 0, locals := 0 } : Room) s m args below meth c H locs 0 0 (MQ below (Q_Walker_multiplySlow K D ca ad L r F9 B9 A) args s 0 0 A) (F0 m 60 ls []) := by
  obtain ⟨hx, hb, hr, hml, hown, hts, hlk, hK, hA, hL, hX⟩ := id X
  replace hf : (rec5 (l4 + 1) l3 l0 l2 F B) = some (r, F9, B9) := hf
  refine lv_iinc (v := iI (l4 + 1)) (lv' := [(4, .int (iI (l4 + 1))), (3, .int (iI l3)), (0, .ref (ad 11 l0 0)), (2, .int (iI l2))]) hx hb d_13_11_60 hl (k := 0) rfl (iI_add _ 1) (by decide) rfl (fun ls hl => ?_)
  refine lv_goto (tgt := 5) hx hb (D_167 W_prog_13_method_11_code_32 31 rfl rfl rfl) (by decide) ?_
  exact hrec5 hf hZ hS (lv_sub hl [0, 1, 2, 3] rfl)

def f_Walker_multiplySlow_17 (rec5 : Int → Int → Int → Int → zF → zB → zO) (K : zK) : Nat → Int → Int → Int → Int → Int → zF → zB → zO
  | 0, _, _, _, _, _, _, _ => none
  | n + 1, l5, l4, l3, l0, l2, F, B => if r32 l5 then (if 4 ≤ l5 then f_Walker_multiplySlow_60 rec5 K l4 l3 l0 l2 F B else if 0 ≤ l4 ∧ l4 < ztl 6 then if ¬ iI (ztv 6 l4) = 0 then if r32 (zrm l3 (ztv 6 l4)) then (if (zrm l3 (ztv 6 l4)) = 0 then if 0 ≤ l0 ∧ l0 < K.2 11 then if 0 ≤ l4 ∧ l4 < 4 then f_Walker_multiplySlow_17 rec5 K n (l5 + 1) l4 (zdv l3 (ztv 6 l4)) l0 l2 F (zup4 B 11 l0 14 l4 ((B 11 l0 14 l4) + l2)) else none else none else f_Walker_multiplySlow_60 rec5 K l4 l3 l0 l2 F B) else none else none else none) else none
set_option maxHeartbeats 4000000 in
set_option maxRecDepth 100000 in
theorem b_Walker_multiplySlow_17 {D : va_G} {ca : Nat → ClassId} {ad : Nat → Int → Nat → Nat} {L : List Nat} {aS vS : Nat → Nat} {A : Nat → Prop} {p : Program} {l : Launch} {e : Env} {s : State} {m : MethodId} {args : Array Value} {below : List Frame} {meth : Method} {c : Code} {K : zK} {r : Int} {F9 : zF} {B9 : zB} (X : zX D ca L aS vS A p s m args meth c prog_13_method_11_code 6 (Option.none : Option Jvm.ClassFile.FieldType) "StaveHouse$Walker") {rec5 : Int → Int → Int → Int → zF → zB → zO} (hrec5 : ∀ {l4 : Int} {l3 : Int} {l0 : Int} {l2 : Int} {F : zF} {B : zB} {H : Heap} {locs : List Loc} {ls : Array Slot}, rec5 l4 l3 l0 l2 F B = some (r, F9, B9) → zH D ca ad lnC K.2 L F B A H → va_S A s.heap H locs → lv_has ls 6 [(4, .int (iI l4)), (3, .int (iI l3)), (0, .ref (ad 11 l0 0)), (2, .int (iI l2))] → W p l e ({ frames := 0, cells := 0, slots := 0, locals := 0 } : Room) s m args below meth c H locs 0 0 (MQ below (Q_Walker_multiplySlow K D ca ad L r F9 B9 A) args s 0 0 A) (F0 m 5 ls [])) : ∀ {n : Nat} {l5 : Int} {l4 : Int} {l3 : Int} {l0 : Int} {l2 : Int} {F : zF} {B : zB} {H : Heap} {locs : List Loc} {ls : Array Slot}, f_Walker_multiplySlow_17 rec5 K n l5 l4 l3 l0 l2 F B = some (r, F9, B9) → zH D ca ad lnC K.2 L F B A H → va_S A s.heap H locs → lv_has ls 6 [(5, .int (iI l5)), (4, .int (iI l4)), (3, .int (iI l3)), (0, .ref (ad 11 l0 0)), (2, .int (iI l2))] → W p l e ({ frames := 0, cells := 0, slots := 0, locals := 0 } : Room) s m args below meth c H locs 0 0 (MQ below (Q_Walker_multiplySlow K D ca ad L r F9 B9 A) args s 0 0 A) (F0 m 17 ls []) := by
  obtain ⟨hx, hb, hr, hml, hown, hts, hlk, hK, hA, hL, hX⟩ := id X
  intro n
  induction n with
  | zero =>
    intros
    rename_i hf _ _ _
    cases hf
  | succ n ih =>
    intro l5 l4 l3 l0 l2 F B H locs ls hf hZ hS hl
    replace hf : (if r32 l5 then (if 4 ≤ l5 then f_Walker_multiplySlow_60 rec5 K l4 l3 l0 l2 F B else if 0 ≤ l4 ∧ l4 < ztl 6 then if ¬ iI (ztv 6 l4) = 0 then if r32 (zrm l3 (ztv 6 l4)) then (if (zrm l3 (ztv 6 l4)) = 0 then if 0 ≤ l0 ∧ l0 < K.2 11 then if 0 ≤ l4 ∧ l4 < 4 then f_Walker_multiplySlow_17 rec5 K n (l5 + 1) l4 (zdv l3 (ztv 6 l4)) l0 l2 F (zup4 B 11 l0 14 l4 ((B 11 l0 14 l4) + l2)) else none else none else f_Walker_multiplySlow_60 rec5 K l4 l3 l0 l2 F B) else none else none else none) else none) = some (r, F9, B9) := hf
    refine lv_iload hx hb (D_21 W_prog_13_method_11_code_0 17 rfl rfl) (lv_at hl 0 rfl) ?_
    refine lv_iconst (v := iI 4) hx hb (D_7 W_prog_13_method_11_code_0 19 rfl rfl) rfl ?_
    obtain ⟨g4, hf⟩ := gif hf
    refine zge (tgt := 60) hx hb g4 (by decide) (D_162 W_prog_13_method_11_code_0 20 rfl rfl rfl) (by decide) (fun h5 => ?_) (fun h5 => ?_)
    · replace hf := gpos hf h5
      exact b_Walker_multiplySlow_60 X hrec5 hf hZ hS (lv_sub hl [1, 2, 3, 4] rfl)
    · replace hf := gneg hf h5
      refine lv_iload_n hx hb (D_29 W_prog_13_method_11_code_0 23 rfl rfl) rfl (lv_at hl 2 rfl) ?_
      refine va_gets hx hb (hX.2.2.2.2.2.2 6 _ rfl).1 hS hown (hts _ k_4_220) (fun _ h => h) (D_178 W_prog_13_method_11_code_0 24 rfl rfl rfl) ?_
      refine W.eq (g2 := F0 m 27 ls [.ref (vS (1000 + 6)), .int (iI l3)]) rfl ?_
      refine lv_iload hx hb (D_21 W_prog_13_method_11_code_0 27 rfl rfl) (lv_at hl 1 rfl) ?_
      obtain ⟨g6, hf⟩ := gif hf
      refine va_ti (v := .int (iI (ztv 6 l4))) hx hb (ztI hX (by decide) (by decide)) hS (zt_in (by decide) g6) (ztI_v (by decide) g6) (D_46 W_prog_13_method_11_code_0 29 rfl rfl) ?_
      obtain ⟨g7, hf⟩ := gif hf
      refine zrm_r hx hb g7 (D_112 W_prog_13_method_11_code_0 30 rfl rfl) ?_
      obtain ⟨g8, hf⟩ := gif hf
      refine z0ne (tgt := 60) hx hb g8 (D_154 W_prog_13_method_11_code_0 31 rfl rfl rfl) (by decide) (fun h9 => ?_) (fun h9 => ?_)
      · replace hf := gneg hf h9
        exact b_Walker_multiplySlow_60 X hrec5 hf hZ hS (lv_sub hl [1, 2, 3, 4] rfl)
      · replace hf := gpos hf h9
        refine lv_iload_n hx hb (D_29 W_prog_13_method_11_code_32 2 rfl rfl) rfl (lv_at hl 2 rfl) ?_
        refine va_gets hx hb (hX.2.2.2.2.2.2 6 _ rfl).1 hS hown (hts _ k_4_220) (fun _ h => h) (D_178 W_prog_13_method_11_code_32 3 rfl rfl rfl) ?_
        refine W.eq (g2 := F0 m 38 ls [.ref (vS (1000 + 6)), .int (iI l3)]) rfl ?_
        refine lv_iload hx hb (D_21 W_prog_13_method_11_code_32 6 rfl rfl) (lv_at hl 1 rfl) ?_
        refine va_ti (v := .int (iI (ztv 6 l4))) hx hb (ztI hX (by decide) (by decide)) hS (zt_in (by decide) g6) (ztI_v (by decide) g6) (D_46 W_prog_13_method_11_code_32 8 rfl rfl) ?_
        refine zdv_r hx hb g7 (D_108 W_prog_13_method_11_code_32 9 rfl rfl) ?_
        refine lv_istore_n (lv' := [(3, .int (iI (zdv l3 (ztv 6 l4)))), (5, .int (iI l5)), (4, .int (iI l4)), (0, .ref (ad 11 l0 0)), (2, .int (iI l2))]) hx hb (D_62 W_prog_13_method_11_code_32 10 rfl rfl) rfl hl (by decide) rfl (fun ls hl => ?_)
        refine lv_aload_n hx hb (D_42 W_prog_13_method_11_code_32 11 rfl rfl) rfl (lv_at hl 3 rfl) ?_
        obtain ⟨g10, hf⟩ := gif hf
        refine zget (ci := 11) (C := RX11) (T := TX11) (v := .ref (ad 11 l0 (14 + 1))) (k := 14) hx hb hts inW_11 hown hK hZ g10.1 g10.2 rfl (by decide) k_1_204 rfl (D_180 W_prog_13_method_11_code_32 12 rfl rfl rfl) ?_
        refine lv_iload hx hb (D_21 W_prog_13_method_11_code_32 15 rfl rfl) (lv_at hl 2 rfl) ?_
        refine lv_dup2_11 hx hb (D_92 W_prog_13_method_11_code_32 17 rfl rfl) rfl rfl ?_
        obtain ⟨g11, hf⟩ := gif hf
        refine zald (ci := 11) (k := 14) hx hb hK rfl hZ g10.1 g10.2 rfl (Nat.le_of_ble_eq_true rfl) g11.1 g11.2 (D_46 W_prog_13_method_11_code_32 18 rfl rfl) ?_
        refine lv_iload_n hx hb (D_28 W_prog_13_method_11_code_32 19 rfl rfl) rfl (lv_at hl 4 rfl) ?_
        refine zadd hx hb (D_96 W_prog_13_method_11_code_32 20 rfl rfl) ?_
        refine zast (ci := 11) (k := 14) hx hb hK rfl hZ hS g10.1 g10.2 rfl (Nat.le_of_ble_eq_true rfl) g11.1 g11.2 (D_79 W_prog_13_method_11_code_32 21 rfl rfl) (fun H12 locs12 hZ12 hS12 => ?_)
        refine lv_iinc (v := iI (l5 + 1)) (lv' := [(5, .int (iI (l5 + 1))), (3, .int (iI (zdv l3 (ztv 6 l4)))), (4, .int (iI l4)), (0, .ref (ad 11 l0 0)), (2, .int (iI l2))]) hx hb d_13_11_54 hl (k := 1) rfl (iI_add _ 1) (by decide) rfl (fun ls hl => ?_)
        refine lv_goto (tgt := 17) hx hb (D_167 W_prog_13_method_11_code_32 25 rfl rfl rfl) (by decide) ?_
        exact ih hf hZ12 hS12 (lv_sub hl [0, 2, 1, 3, 4] rfl)

def f_Walker_multiplySlow_5 (K : zK) : Nat → Int → Int → Int → Int → zF → zB → zO
  | 0, _, _, _, _, _, _ => none
  | n + 1, l4, l3, l0, l2, F, B => if r32 l4 then if r32 (ztl 6) then (if (ztl 6) ≤ l4 then some (0, F, B) else f_Walker_multiplySlow_17 (f_Walker_multiplySlow_5 K n) K K.1 0 l4 l3 l0 l2 F B) else none else none
set_option maxHeartbeats 4000000 in
set_option maxRecDepth 100000 in
theorem b_Walker_multiplySlow_5 {D : va_G} {ca : Nat → ClassId} {ad : Nat → Int → Nat → Nat} {L : List Nat} {aS vS : Nat → Nat} {A : Nat → Prop} {p : Program} {l : Launch} {e : Env} {s : State} {m : MethodId} {args : Array Value} {below : List Frame} {meth : Method} {c : Code} {K : zK} {r : Int} {F9 : zF} {B9 : zB} (X : zX D ca L aS vS A p s m args meth c prog_13_method_11_code 6 (Option.none : Option Jvm.ClassFile.FieldType) "StaveHouse$Walker") : ∀ {n : Nat} {l4 : Int} {l3 : Int} {l0 : Int} {l2 : Int} {F : zF} {B : zB} {H : Heap} {locs : List Loc} {ls : Array Slot}, f_Walker_multiplySlow_5 K n l4 l3 l0 l2 F B = some (r, F9, B9) → zH D ca ad lnC K.2 L F B A H → va_S A s.heap H locs → lv_has ls 6 [(4, .int (iI l4)), (3, .int (iI l3)), (0, .ref (ad 11 l0 0)), (2, .int (iI l2))] → W p l e ({ frames := 0, cells := 0, slots := 0, locals := 0 } : Room) s m args below meth c H locs 0 0 (MQ below (Q_Walker_multiplySlow K D ca ad L r F9 B9 A) args s 0 0 A) (F0 m 5 ls []) := by
  obtain ⟨hx, hb, hr, hml, hown, hts, hlk, hK, hA, hL, hX⟩ := id X
  intro n
  induction n with
  | zero =>
    intros
    rename_i hf _ _ _
    cases hf
  | succ n ih =>
    intro l4 l3 l0 l2 F B H locs ls hf hZ hS hl
    replace hf : (if r32 l4 then if r32 (ztl 6) then (if (ztl 6) ≤ l4 then some (0, F, B) else f_Walker_multiplySlow_17 (f_Walker_multiplySlow_5 K n) K K.1 0 l4 l3 l0 l2 F B) else none else none) = some (r, F9, B9) := hf
    refine lv_iload hx hb (D_21 W_prog_13_method_11_code_0 5 rfl rfl) (lv_at hl 0 rfl) ?_
    refine va_gets hx hb (hX.2.2.2.2.2.2 6 _ rfl).1 hS hown (hts _ k_4_220) (fun _ h => h) (D_178 W_prog_13_method_11_code_0 7 rfl rfl rfl) ?_
    refine W.eq (g2 := F0 m 10 ls [.ref (vS (1000 + 6)), .int (iI l4)]) rfl ?_
    refine va_tlen (v := iI (ztl 6)) hx hb (ztT hX (by decide)) hS (ztl_n _) (D_190 W_prog_13_method_11_code_0 10 rfl rfl) ?_
    obtain ⟨g1, hf⟩ := gif hf
    obtain ⟨g2, hf⟩ := gif hf
    refine zge (tgt := 66) hx hb g1 g2 (D_162 W_prog_13_method_11_code_0 11 rfl rfl rfl) (by decide) (fun h3 => ?_) (fun h3 => ?_)
    · replace hf := gpos hf h3
      cases hf
      exact W.vret hx hb hr (fun t ht hW => ⟨⟨(), rfl, trivial, by rw [ht]; exact hZ, va_K.moved hW.alike hK⟩, hS.F ht⟩) hS.2.2 (D_177 W_prog_13_method_11_code_64 2 rfl rfl) hlk
    · replace hf := gneg hf h3
      refine lv_iconst (v := iI 0) hx hb (D_3 W_prog_13_method_11_code_0 14 rfl rfl) rfl ?_
      refine lv_istore (lv' := [(5, .int (iI 0)), (4, .int (iI l4)), (3, .int (iI l3)), (0, .ref (ad 11 l0 0)), (2, .int (iI l2))]) hx hb (D_54 W_prog_13_method_11_code_0 15 rfl rfl) hl (by decide) rfl (fun ls hl => ?_)
      exact b_Walker_multiplySlow_17 X ih hf hZ hS (lv_sub hl [0, 1, 2, 3, 4] rfl)

def f_Walker_multiplySlow (K : zK) (l0 : Int) (l1 : Int) (l2 : Int) (F : zF) (B : zB) : zO := f_Walker_multiplySlow_5 K K.1 0 l1 l0 l2 F B
set_option maxHeartbeats 4000000 in
set_option maxRecDepth 100000 in
theorem c_Walker_multiplySlow {l : Launch} {D : va_G} {ca : Nat → ClassId} {ad : Nat → Int → Nat → Nat} {L : List Nat} {aS vS : Nat → Nat} {sz : Nat} {K : zK}  {l0 : Int} {l1 : Int} {l2 : Int} {F F9 : zF} {B B9 : zB} {r : Int} (hf : f_Walker_multiplySlow K l0 l1 l2 F B = some (r, F9, B9)) : Met l ({ cls := "StaveHouse$Walker", name := "multiplySlow", desc := "(II)V" } : Jvm.MethodName) (Cond.code ({ cls := "StaveHouse$Walker", name := "multiplySlow", desc := "(II)V" } : Jvm.MethodName) prog_13_method_11_code 6 (Option.none : Option Jvm.ClassFile.FieldType) :: wAll) ({ frames := 0, cells := 0, slots := 0, locals := 0 } : Room) (va_Pc [.ref (ad 11 l0 0), .int (iI l1), .int (iI l2)] (zPre D ca ad lnC K.2 L aS vS F B sz)) (Q_Walker_multiplySlow K D ca ad L r F9 B9 (zA L sz)) 0 0 (zA L sz) := by
  refine zMet (Qc := Q_Walker_multiplySlow K D ca ad L r F9 B9) (lv := [(0, .ref (ad 11 l0 0)), (1, .int (iI l1)), (2, .int (iI l2))]) (by decide) (Nat.le_of_ble_eq_true rfl) rfl (fun A p e s m below meth c ls X hZ hS hl => ?_)
  obtain ⟨hx, hb, hr, hml, hown, hts, hlk, hK, hA, hL, hX⟩ := id X
  replace hf : (f_Walker_multiplySlow_5 K K.1 0 l1 l0 l2 F B) = some (r, F9, B9) := hf
  refine lv_iload_n hx hb (D_27 W_prog_13_method_11_code_0 0 rfl rfl) rfl (lv_at hl 1 rfl) ?_
  refine lv_istore_n (lv' := [(3, .int (iI l1)), (0, .ref (ad 11 l0 0)), (1, .int (iI l1)), (2, .int (iI l2))]) hx hb (D_62 W_prog_13_method_11_code_0 1 rfl rfl) rfl hl (by decide) rfl (fun ls hl => ?_)
  refine lv_iconst (v := iI 0) hx hb (D_3 W_prog_13_method_11_code_0 2 rfl rfl) rfl ?_
  refine lv_istore (lv' := [(4, .int (iI 0)), (3, .int (iI l1)), (0, .ref (ad 11 l0 0)), (1, .int (iI l1)), (2, .int (iI l2))]) hx hb (D_54 W_prog_13_method_11_code_0 3 rfl rfl) hl (by decide) rfl (fun ls hl => ?_)
  exact b_Walker_multiplySlow_5 X hf hZ hS (lv_sub hl [0, 1, 2, 4] rfl)

abbrev Q_Part_placeEvents (K : zK) (D : va_G) (ca : Nat → ClassId) (ad : Nat → Int → Nat → Nat) (L : List Nat) (r : Int) (F : zF) (B : zB) (A : Nat → Prop) : Array Value → State → Outcome → State → Prop := va_Qv (S := Unit) (fun _ => True) (fun _ => zPo D ca ad lnC K.2 L F B A) A
def f_Part_placeEvents_7 (K : zK) : Nat → Int → Int → zF → zB → zO
  | 0, _, _, _, _ => none
  | n + 1, l1, l0, F, B => if 0 ≤ l0 ∧ l0 < K.2 4 then if r32 l1 then if r32 (F 4 l0 6) then (if (F 4 l0 6) ≤ l1 then some (0, F, B) else if 0 ≤ l1 ∧ l1 < 200 then if 0 ≤ (B 4 l0 5 l1) ∧ (B 4 l0 5 l1) < K.2 1 then f_Part_placeEvents_7 K n (l1 + 1) l0 (zup3 (zup3 F 1 (B 4 l0 5 l1) 0 (F 4 l0 7)) 4 l0 7 ((F 4 l0 7) + (F 1 (B 4 l0 5 l1) 1))) B else none else none) else none else none else none
set_option maxHeartbeats 4000000 in
set_option maxRecDepth 100000 in
theorem b_Part_placeEvents_7 {D : va_G} {ca : Nat → ClassId} {ad : Nat → Int → Nat → Nat} {L : List Nat} {aS vS : Nat → Nat} {A : Nat → Prop} {p : Program} {l : Launch} {e : Env} {s : State} {m : MethodId} {args : Array Value} {below : List Frame} {meth : Method} {c : Code} {K : zK} {r : Int} {F9 : zF} {B9 : zB} (X : zX D ca L aS vS A p s m args meth c prog_6_method_5_code 2 (Option.none : Option Jvm.ClassFile.FieldType) "StaveHouse$Part") : ∀ {n : Nat} {l1 : Int} {l0 : Int} {F : zF} {B : zB} {H : Heap} {locs : List Loc} {ls : Array Slot}, f_Part_placeEvents_7 K n l1 l0 F B = some (r, F9, B9) → zH D ca ad lnC K.2 L F B A H → va_S A s.heap H locs → lv_has ls 2 [(1, .int (iI l1)), (0, .ref (ad 4 l0 0))] → W p l e ({ frames := 0, cells := 0, slots := 0, locals := 0 } : Room) s m args below meth c H locs 0 0 (MQ below (Q_Part_placeEvents K D ca ad L r F9 B9 A) args s 0 0 A) (F0 m 7 ls []) := by
  obtain ⟨hx, hb, hr, hml, hown, hts, hlk, hK, hA, hL, hX⟩ := id X
  intro n
  induction n with
  | zero =>
    intros
    rename_i hf _ _ _
    cases hf
  | succ n ih =>
    intro l1 l0 F B H locs ls hf hZ hS hl
    replace hf : (if 0 ≤ l0 ∧ l0 < K.2 4 then if r32 l1 then if r32 (F 4 l0 6) then (if (F 4 l0 6) ≤ l1 then some (0, F, B) else if 0 ≤ l1 ∧ l1 < 200 then if 0 ≤ (B 4 l0 5 l1) ∧ (B 4 l0 5 l1) < K.2 1 then f_Part_placeEvents_7 K n (l1 + 1) l0 (zup3 (zup3 F 1 (B 4 l0 5 l1) 0 (F 4 l0 7)) 4 l0 7 ((F 4 l0 7) + (F 1 (B 4 l0 5 l1) 1))) B else none else none) else none else none else none) = some (r, F9, B9) := hf
    refine lv_iload_n hx hb (D_27 W_prog_6_method_5_code_0 7 rfl rfl) rfl (lv_at hl 0 rfl) ?_
    refine lv_aload_n hx hb (D_42 W_prog_6_method_5_code_0 8 rfl rfl) rfl (lv_at hl 1 rfl) ?_
    obtain ⟨g3, hf⟩ := gif hf
    refine zget (ci := 4) (C := RX4) (T := TX4) (v := .int (iI (F 4 l0 6))) (k := 6) hx hb hts inW_4 hown hK hZ g3.1 g3.2 rfl (by decide) k_4_135 rfl (D_180 W_prog_6_method_5_code_0 9 rfl rfl rfl) ?_
    obtain ⟨g4, hf⟩ := gif hf
    obtain ⟨g5, hf⟩ := gif hf
    refine zge (tgt := 52) hx hb g4 g5 (D_162 W_prog_6_method_5_code_0 12 rfl rfl rfl) (by decide) (fun h6 => ?_) (fun h6 => ?_)
    · replace hf := gpos hf h6
      cases hf
      exact W.vret hx hb hr (fun t ht hW => ⟨⟨(), rfl, trivial, by rw [ht]; exact hZ, va_K.moved hW.alike hK⟩, hS.F ht⟩) hS.2.2 (D_177 W_prog_6_method_5_code_32 20 rfl rfl) hlk
    · replace hf := gneg hf h6
      refine lv_aload_n hx hb (D_42 W_prog_6_method_5_code_0 15 rfl rfl) rfl (lv_at hl 1 rfl) ?_
      refine zget (ci := 4) (C := RX4) (T := TX4) (v := .ref (ad 4 l0 (5 + 1))) (k := 5) hx hb hts inW_4 hown hK hZ g3.1 g3.2 rfl (by decide) k_4_130 rfl (D_180 W_prog_6_method_5_code_0 16 rfl rfl rfl) ?_
      refine lv_iload_n hx hb (D_27 W_prog_6_method_5_code_0 19 rfl rfl) rfl (lv_at hl 0 rfl) ?_
      obtain ⟨g7, hf⟩ := gif hf
      refine zaldR (t := 1) (x := 7) (ci := 4) (k := 5) hx hb hK rfl rfl hZ g3.1 g3.2 rfl (Nat.le_of_ble_eq_true rfl) g7.1 g7.2 (D_50 W_prog_6_method_5_code_0 20 rfl rfl) ?_
      refine lv_aload_n hx hb (D_42 W_prog_6_method_5_code_0 21 rfl rfl) rfl (lv_at hl 1 rfl) ?_
      refine zget (ci := 4) (C := RX4) (T := TX4) (v := .long (lI (F 4 l0 7))) (k := 7) hx hb hts inW_4 hown hK hZ g3.1 g3.2 rfl (by decide) k_4_140 rfl (D_180 W_prog_6_method_5_code_0 22 rfl rfl rfl) ?_
      obtain ⟨g8, hf⟩ := gif hf
      refine W.eq (g2 := F0 m 25 ls [.long (lI (F 4 l0 7)), .ref (ad 1 (B 4 l0 5 l1) 0)]) (by rw [zrf_pos (ad := ad) (t := 1) g8.1]; try rfl) ?_
      refine zput (ci := 1) (C := RX1) (T := TX1) (k := 0) (v := (F 4 l0 7)) (w := .long (lI (F 4 l0 7))) hx hb hts inW_1 tyX1 tyX1_ok nmX1 hown hK hZ hS g8.1 g8.2 rfl (by decide) k_2_21 rfl (fun G h => congrArg (fun q => Value.long (lI q)) h) rfl rfl (zno (by decide)) (D_181 W_prog_6_method_5_code_0 25 rfl rfl rfl) (fun H9 locs9 hZ9 hS9 => ?_)
      refine lv_aload_n hx hb (D_42 W_prog_6_method_5_code_0 28 rfl rfl) rfl (lv_at hl 1 rfl) ?_
      refine lv_dup hx hb (D_89 W_prog_6_method_5_code_0 29 rfl rfl) rfl ?_
      refine zget (ci := 4) (C := RX4) (T := TX4) (v := .long (lI (F 4 l0 7))) (k := 7) hx hb hts inW_4 hown hK hZ9 g3.1 g3.2 rfl (by decide) k_4_140 (congrArg (fun q : Int => Value.long (lI q)) (show (zup3 F 1 (B 4 l0 5 l1) 0 (F 4 l0 7)) 4 l0 7 = F 4 l0 7 by simp [zup3])) (D_180 W_prog_6_method_5_code_0 30 rfl rfl rfl) ?_
      refine lv_aload_n hx hb (D_42 W_prog_6_method_5_code_32 1 rfl rfl) rfl (lv_at hl 1 rfl) ?_
      refine zget (ci := 4) (C := RX4) (T := TX4) (v := .ref (ad 4 l0 (5 + 1))) (k := 5) hx hb hts inW_4 hown hK hZ9 g3.1 g3.2 rfl (by decide) k_4_130 rfl (D_180 W_prog_6_method_5_code_32 2 rfl rfl rfl) ?_
      refine lv_iload_n hx hb (D_27 W_prog_6_method_5_code_32 5 rfl rfl) rfl (lv_at hl 0 rfl) ?_
      refine zaldR (t := 1) (x := 7) (ci := 4) (k := 5) hx hb hK rfl rfl hZ9 g3.1 g3.2 rfl (Nat.le_of_ble_eq_true rfl) g7.1 g7.2 (D_50 W_prog_6_method_5_code_32 6 rfl rfl) ?_
      refine zunrf g8.1 ?_
      refine zget (ci := 1) (C := RX1) (T := TX1) (v := .long (lI (F 1 (B 4 l0 5 l1) 1))) (k := 1) hx hb hts inW_1 hown hK hZ9 g8.1 g8.2 rfl (by decide) k_2_24 (congrArg (fun q : Int => Value.long (lI q)) (show (zup3 F 1 (B 4 l0 5 l1) 0 (F 4 l0 7)) 1 (B 4 l0 5 l1) 1 = F 1 (B 4 l0 5 l1) 1 by simp [zup3])) (D_180 W_prog_6_method_5_code_32 7 rfl rfl rfl) ?_
      refine zladd hx hb (D_97 W_prog_6_method_5_code_32 10 rfl rfl) ?_
      refine zput (ci := 4) (C := RX4) (T := TX4) (k := 7) (v := ((F 4 l0 7) + (F 1 (B 4 l0 5 l1) 1))) (w := .long (lI ((F 4 l0 7) + (F 1 (B 4 l0 5 l1) 1)))) hx hb hts inW_4 tyX4 tyX4_ok nmX4 hown hK hZ9 hS9 g3.1 g3.2 rfl (by decide) k_4_140 rfl (fun G h => congrArg (fun q => Value.long (lI q)) h) rfl rfl (zno (by decide)) (D_181 W_prog_6_method_5_code_32 11 rfl rfl rfl) (fun H10 locs10 hZ10 hS10 => ?_)
      refine lv_iinc (v := iI (l1 + 1)) (lv' := [(1, .int (iI (l1 + 1))), (0, .ref (ad 4 l0 0))]) hx hb d_6_5_46 hl (k := 0) rfl (iI_add _ 1) (by decide) rfl (fun ls hl => ?_)
      refine lv_goto (tgt := 7) hx hb (D_167 W_prog_6_method_5_code_32 17 rfl rfl rfl) (by decide) ?_
      exact ih hf hZ10 hS10 (lv_sub hl [0, 1] rfl)

def f_Part_placeEvents (K : zK) (l0 : Int) (F : zF) (B : zB) : zO := if 0 ≤ l0 ∧ l0 < K.2 4 then f_Part_placeEvents_7 K K.1 0 l0 (zup3 F 4 l0 7 0) B else none
set_option maxHeartbeats 4000000 in
set_option maxRecDepth 100000 in
theorem c_Part_placeEvents {l : Launch} {D : va_G} {ca : Nat → ClassId} {ad : Nat → Int → Nat → Nat} {L : List Nat} {aS vS : Nat → Nat} {sz : Nat} {K : zK}  {l0 : Int} {F F9 : zF} {B B9 : zB} {r : Int} (hf : f_Part_placeEvents K l0 F B = some (r, F9, B9)) : Met l ({ cls := "StaveHouse$Part", name := "placeEvents", desc := "()V" } : Jvm.MethodName) (Cond.code ({ cls := "StaveHouse$Part", name := "placeEvents", desc := "()V" } : Jvm.MethodName) prog_6_method_5_code 2 (Option.none : Option Jvm.ClassFile.FieldType) :: wAll) ({ frames := 0, cells := 0, slots := 0, locals := 0 } : Room) (va_Pc [.ref (ad 4 l0 0)] (zPre D ca ad lnC K.2 L aS vS F B sz)) (Q_Part_placeEvents K D ca ad L r F9 B9 (zA L sz)) 0 0 (zA L sz) := by
  refine zMet (Qc := Q_Part_placeEvents K D ca ad L r F9 B9) (lv := [(0, .ref (ad 4 l0 0))]) (by decide) (Nat.le_of_ble_eq_true rfl) rfl (fun A p e s m below meth c ls X hZ hS hl => ?_)
  obtain ⟨hx, hb, hr, hml, hown, hts, hlk, hK, hA, hL, hX⟩ := id X
  replace hf : (if 0 ≤ l0 ∧ l0 < K.2 4 then f_Part_placeEvents_7 K K.1 0 l0 (zup3 F 4 l0 7 0) B else none) = some (r, F9, B9) := hf
  refine lv_aload_n hx hb (D_42 W_prog_6_method_5_code_0 0 rfl rfl) rfl (lv_at hl 0 rfl) ?_
  refine lv_lconst (v := lI 0) hx hb (D_9 W_prog_6_method_5_code_0 1 rfl rfl) (by decide) ?_
  obtain ⟨g1, hf⟩ := gif hf
  refine zput (ci := 4) (C := RX4) (T := TX4) (k := 7) (v := 0) (w := .long (lI 0)) hx hb hts inW_4 tyX4 tyX4_ok nmX4 hown hK hZ hS g1.1 g1.2 rfl (by decide) k_4_140 rfl (fun G h => congrArg (fun q => Value.long (lI q)) h) rfl rfl (zno (by decide)) (D_181 W_prog_6_method_5_code_0 2 rfl rfl rfl) (fun H2 locs2 hZ2 hS2 => ?_)
  refine lv_iconst (v := iI 0) hx hb (D_3 W_prog_6_method_5_code_0 5 rfl rfl) rfl ?_
  refine lv_istore_n (lv' := [(1, .int (iI 0)), (0, .ref (ad 4 l0 0))]) hx hb (D_60 W_prog_6_method_5_code_0 6 rfl rfl) rfl hl (by decide) rfl (fun ls hl => ?_)
  exact b_Part_placeEvents_7 X hf hZ2 hS2 (lv_sub hl [0, 1] rfl)

abbrev Q_Part_bracketStands (K : zK) (D : va_G) (ca : Nat → ClassId) (ad : Nat → Int → Nat → Nat) (L : List Nat) (r : Int) (F : zF) (B : zB) (A : Nat → Prop) : Array Value → State → Outcome → State → Prop := va_Qi (S := Unit) (fun p _ => p = iI r) (fun _ => zPo D ca ad lnC K.2 L F B A) A
def f_Part_bracketStands_140 (K : zK) (s0 : Int) (F : zF) (B : zB) : zO := if (s0 = 0 ∨ s0 = 1) then some (s0, F, B) else none
set_option maxHeartbeats 4000000 in
set_option maxRecDepth 100000 in
theorem b_Part_bracketStands_140 {D : va_G} {ca : Nat → ClassId} {ad : Nat → Int → Nat → Nat} {L : List Nat} {aS vS : Nat → Nat} {A : Nat → Prop} {p : Program} {l : Launch} {e : Env} {s : State} {m : MethodId} {args : Array Value} {below : List Frame} {meth : Method} {c : Code} {K : zK} {r : Int} {F9 : zF} {B9 : zB} (X : zX D ca L aS vS A p s m args meth c prog_6_method_6_code 10 (Option.some Jvm.ClassFile.FieldType.boolean) "StaveHouse$Part") {s0 : Int} {F : zF} {B : zB} {H : Heap} {locs : List Loc} {ls : Array Slot} (hf : f_Part_bracketStands_140 K s0 F B = some (r, F9, B9)) (hZ : zH D ca ad lnC K.2 L F B A H) (hS : va_S A s.heap H locs) (hl : lv_has ls 10 []) : W p l e ({ frames := 0, cells := 0, slots := 0, locals := 0 } : Room) s m args below meth c H locs 0 0 (MQ below (Q_Part_bracketStands K D ca ad L r F9 B9 A) args s 0 0 A) (F0 m 140 ls [.int (iI s0)]) := by
  obtain ⟨hx, hb, hr, hml, hown, hts, hlk, hK, hA, hL, hX⟩ := id X
  replace hf : (if (s0 = 0 ∨ s0 = 1) then some (s0, F, B) else none) = some (r, F9, B9) := hf
  obtain ⟨g33, hf⟩ := gif hf
  cases hf
  exact W.zret hx hb hr (zbool g33) (fun t ht hW => ⟨⟨_, (), rfl, rfl, by rw [ht]; exact hZ, va_K.moved hW.alike hK⟩, hS.F ht⟩) hS.2.2 (D_172 W_prog_6_method_6_code_128 12 rfl rfl) hlk

def f_Part_bracketStands_139 (K : zK)  (F : zF) (B : zB) : zO := f_Part_bracketStands_140 K 0 F B
set_option maxHeartbeats 4000000 in
set_option maxRecDepth 100000 in
theorem b_Part_bracketStands_139 {D : va_G} {ca : Nat → ClassId} {ad : Nat → Int → Nat → Nat} {L : List Nat} {aS vS : Nat → Nat} {A : Nat → Prop} {p : Program} {l : Launch} {e : Env} {s : State} {m : MethodId} {args : Array Value} {below : List Frame} {meth : Method} {c : Code} {K : zK} {r : Int} {F9 : zF} {B9 : zB} (X : zX D ca L aS vS A p s m args meth c prog_6_method_6_code 10 (Option.some Jvm.ClassFile.FieldType.boolean) "StaveHouse$Part")  {F : zF} {B : zB} {H : Heap} {locs : List Loc} {ls : Array Slot} (hf : f_Part_bracketStands_139 K  F B = some (r, F9, B9)) (hZ : zH D ca ad lnC K.2 L F B A H) (hS : va_S A s.heap H locs) (hl : lv_has ls 10 []) : W p l e ({ frames := 0, cells := 0, slots := 0, locals := 0 } : Room) s m args below meth c H locs 0 0 (MQ below (Q_Part_bracketStands K D ca ad L r F9 B9 A) args s 0 0 A) (F0 m 139 ls []) := by
  obtain ⟨hx, hb, hr, hml, hown, hts, hlk, hK, hA, hL, hX⟩ := id X
  replace hf : (f_Part_bracketStands_140 K 0 F B) = some (r, F9, B9) := hf
  refine lv_iconst (v := iI 0) hx hb (D_3 W_prog_6_method_6_code_128 11 rfl rfl) rfl ?_
  exact b_Part_bracketStands_140 X hf hZ hS (lv_sub hl [] rfl)

def f_Part_bracketStands_107 (K : zK) (l7 : Int) (l5 : Int) (l2 : Int) (F : zF) (B : zB) : zO := if ¬ lI l2 = 0 then if r64 (zldv l5 l2) then if r64 (zldv (l7 - 1) l2) then (if (zcmp (zldv l5 l2) (zldv (l7 - 1) l2)) = 0 then if r64 (zlrm (l7 - l5) 6350400) then (if (zcmp (zlrm (l7 - l5) 6350400) 0) = 0 then f_Part_bracketStands_140 K 1 F B else f_Part_bracketStands_139 K F B) else none else f_Part_bracketStands_139 K F B) else none else none else none
set_option maxHeartbeats 4000000 in
set_option maxRecDepth 100000 in
theorem b_Part_bracketStands_107 {D : va_G} {ca : Nat → ClassId} {ad : Nat → Int → Nat → Nat} {L : List Nat} {aS vS : Nat → Nat} {A : Nat → Prop} {p : Program} {l : Launch} {e : Env} {s : State} {m : MethodId} {args : Array Value} {below : List Frame} {meth : Method} {c : Code} {K : zK} {r : Int} {F9 : zF} {B9 : zB} (X : zX D ca L aS vS A p s m args meth c prog_6_method_6_code 10 (Option.some Jvm.ClassFile.FieldType.boolean) "StaveHouse$Part") {l7 : Int} {l5 : Int} {l2 : Int} {F : zF} {B : zB} {H : Heap} {locs : List Loc} {ls : Array Slot} (hf : f_Part_bracketStands_107 K l7 l5 l2 F B = some (r, F9, B9)) (hZ : zH D ca ad lnC K.2 L F B A H) (hS : va_S A s.heap H locs) (hl : lv_has ls 10 [(7, .long (lI l7)), (5, .long (lI l5)), (2, .long (lI l2))]) : W p l e ({ frames := 0, cells := 0, slots := 0, locals := 0 } : Room) s m args below meth c H locs 0 0 (MQ below (Q_Part_bracketStands K D ca ad L r F9 B9 A) args s 0 0 A) (F0 m 107 ls []) := by
  obtain ⟨hx, hb, hr, hml, hown, hts, hlk, hK, hA, hL, hX⟩ := id X
  replace hf : (if ¬ lI l2 = 0 then if r64 (zldv l5 l2) then if r64 (zldv (l7 - 1) l2) then (if (zcmp (zldv l5 l2) (zldv (l7 - 1) l2)) = 0 then if r64 (zlrm (l7 - l5) 6350400) then (if (zcmp (zlrm (l7 - l5) 6350400) 0) = 0 then f_Part_bracketStands_140 K 1 F B else f_Part_bracketStands_139 K F B) else none else f_Part_bracketStands_139 K F B) else none else none else none) = some (r, F9, B9) := hf
  refine lv_lload hx hb (D_22 W_prog_6_method_6_code_96 11 rfl rfl) (lv_at hl 1 rfl) ?_
  refine lv_lload_n hx hb (D_32 W_prog_6_method_6_code_96 13 rfl rfl) rfl (lv_at hl 2 rfl) ?_
  obtain ⟨g26, hf⟩ := gif hf
  refine zldv_r hx hb g26 (D_109 W_prog_6_method_6_code_96 14 rfl rfl) ?_
  refine lv_lload hx hb (D_22 W_prog_6_method_6_code_96 15 rfl rfl) (lv_at hl 0 rfl) ?_
  refine lv_lconst (v := lI 1) hx hb (D_10 W_prog_6_method_6_code_96 17 rfl rfl) (by decide) ?_
  refine zlsub hx hb (D_101 W_prog_6_method_6_code_96 18 rfl rfl) ?_
  refine lv_lload_n hx hb (D_32 W_prog_6_method_6_code_96 19 rfl rfl) rfl (lv_at hl 2 rfl) ?_
  refine zldv_r hx hb g26 (D_109 W_prog_6_method_6_code_96 20 rfl rfl) ?_
  obtain ⟨g27, hf⟩ := gif hf
  obtain ⟨g28, hf⟩ := gif hf
  refine zcmp_r hx hb g27 g28 (D_148 W_prog_6_method_6_code_96 21 rfl rfl) ?_
  refine z0ne (tgt := 139) hx hb zcmp_32 (D_154 W_prog_6_method_6_code_96 22 rfl rfl rfl) (by decide) (fun h29 => ?_) (fun h29 => ?_)
  · replace hf := gneg hf h29
    exact b_Part_bracketStands_139 X hf hZ hS (lv_sub hl [] rfl)
  · replace hf := gpos hf h29
    refine lv_lload hx hb (D_22 W_prog_6_method_6_code_96 25 rfl rfl) (lv_at hl 0 rfl) ?_
    refine lv_lload hx hb (D_22 W_prog_6_method_6_code_96 27 rfl rfl) (lv_at hl 1 rfl) ?_
    refine zlsub hx hb (D_101 W_prog_6_method_6_code_96 29 rfl rfl) ?_
    refine lv_ldc2 hx hb hown (hts _ k_5_36) (D_20 W_prog_6_method_6_code_96 30 rfl rfl rfl) ?_
    refine W.eq (g2 := F0 m 129 ls [.long (lI 6350400), .long (lI (l7 - l5))]) rfl ?_
    refine zlrm_r hx hb (by decide) (D_113 W_prog_6_method_6_code_128 1 rfl rfl) ?_
    refine lv_lconst (v := lI 0) hx hb (D_9 W_prog_6_method_6_code_128 2 rfl rfl) (by decide) ?_
    obtain ⟨g30, hf⟩ := gif hf
    refine zcmp_r hx hb g30 (by decide) (D_148 W_prog_6_method_6_code_128 3 rfl rfl) ?_
    refine z0ne (tgt := 139) hx hb zcmp_32 (D_154 W_prog_6_method_6_code_128 4 rfl rfl rfl) (by decide) (fun h31 => ?_) (fun h31 => ?_)
    · replace hf := gneg hf h31
      exact b_Part_bracketStands_139 X hf hZ hS (lv_sub hl [] rfl)
    · replace hf := gpos hf h31
      refine lv_iconst (v := iI 1) hx hb (D_4 W_prog_6_method_6_code_128 7 rfl rfl) rfl ?_
      refine lv_goto (tgt := 140) hx hb (D_167 W_prog_6_method_6_code_128 8 rfl rfl rfl) (by decide) ?_
      exact b_Part_bracketStands_140 X hf hZ hS (lv_sub hl [] rfl)

def f_Part_bracketStands_62 (K : zK) : Nat → Int → Int → Int → Int → Int → Int → zF → zB → zO
  | 0, _, _, _, _, _, _, _, _ => none
  | n + 1, l9, l7, l5, l4, l0, l2, F, B => if 0 ≤ l0 ∧ l0 < K.2 4 then if r32 l9 then if r32 (F 4 l0 6) then (if (F 4 l0 6) ≤ l9 then f_Part_bracketStands_107 K l7 l5 l2 F B else if 0 ≤ l9 ∧ l9 < 200 then if 0 ≤ (B 4 l0 5 l9) ∧ (B 4 l0 5 l9) < K.2 1 then if r32 (F 1 (B 4 l0 5 l9) 5) then if r32 l4 then (if (F 1 (B 4 l0 5 l9) 5) = l4 then f_Part_bracketStands_62 K n (l9 + 1) (l7 + (F 1 (B 4 l0 5 l9) 1)) l5 l4 l0 l2 F B else f_Part_bracketStands_107 K l7 l5 l2 F B) else none else none else none else none) else none else none else none
set_option maxHeartbeats 4000000 in
set_option maxRecDepth 100000 in
theorem b_Part_bracketStands_62 {D : va_G} {ca : Nat → ClassId} {ad : Nat → Int → Nat → Nat} {L : List Nat} {aS vS : Nat → Nat} {A : Nat → Prop} {p : Program} {l : Launch} {e : Env} {s : State} {m : MethodId} {args : Array Value} {below : List Frame} {meth : Method} {c : Code} {K : zK} {r : Int} {F9 : zF} {B9 : zB} (X : zX D ca L aS vS A p s m args meth c prog_6_method_6_code 10 (Option.some Jvm.ClassFile.FieldType.boolean) "StaveHouse$Part") : ∀ {n : Nat} {l9 : Int} {l7 : Int} {l5 : Int} {l4 : Int} {l0 : Int} {l2 : Int} {F : zF} {B : zB} {H : Heap} {locs : List Loc} {ls : Array Slot}, f_Part_bracketStands_62 K n l9 l7 l5 l4 l0 l2 F B = some (r, F9, B9) → zH D ca ad lnC K.2 L F B A H → va_S A s.heap H locs → lv_has ls 10 [(9, .int (iI l9)), (7, .long (lI l7)), (5, .long (lI l5)), (4, .int (iI l4)), (0, .ref (ad 4 l0 0)), (2, .long (lI l2))] → W p l e ({ frames := 0, cells := 0, slots := 0, locals := 0 } : Room) s m args below meth c H locs 0 0 (MQ below (Q_Part_bracketStands K D ca ad L r F9 B9 A) args s 0 0 A) (F0 m 62 ls []) := by
  obtain ⟨hx, hb, hr, hml, hown, hts, hlk, hK, hA, hL, hX⟩ := id X
  intro n
  induction n with
  | zero =>
    intros
    rename_i hf _ _ _
    cases hf
  | succ n ih =>
    intro l9 l7 l5 l4 l0 l2 F B H locs ls hf hZ hS hl
    replace hf : (if 0 ≤ l0 ∧ l0 < K.2 4 then if r32 l9 then if r32 (F 4 l0 6) then (if (F 4 l0 6) ≤ l9 then f_Part_bracketStands_107 K l7 l5 l2 F B else if 0 ≤ l9 ∧ l9 < 200 then if 0 ≤ (B 4 l0 5 l9) ∧ (B 4 l0 5 l9) < K.2 1 then if r32 (F 1 (B 4 l0 5 l9) 5) then if r32 l4 then (if (F 1 (B 4 l0 5 l9) 5) = l4 then f_Part_bracketStands_62 K n (l9 + 1) (l7 + (F 1 (B 4 l0 5 l9) 1)) l5 l4 l0 l2 F B else f_Part_bracketStands_107 K l7 l5 l2 F B) else none else none else none else none) else none else none else none) = some (r, F9, B9) := hf
    refine lv_iload hx hb (D_21 W_prog_6_method_6_code_32 30 rfl rfl) (lv_at hl 0 rfl) ?_
    refine lv_aload_n hx hb (D_42 W_prog_6_method_6_code_64 0 rfl rfl) rfl (lv_at hl 4 rfl) ?_
    obtain ⟨g17, hf⟩ := gif hf
    refine zget (ci := 4) (C := RX4) (T := TX4) (v := .int (iI (F 4 l0 6))) (k := 6) hx hb hts inW_4 hown hK hZ g17.1 g17.2 rfl (by decide) k_4_135 rfl (D_180 W_prog_6_method_6_code_64 1 rfl rfl rfl) ?_
    obtain ⟨g18, hf⟩ := gif hf
    obtain ⟨g19, hf⟩ := gif hf
    refine zge (tgt := 107) hx hb g18 g19 (D_162 W_prog_6_method_6_code_64 4 rfl rfl rfl) (by decide) (fun h20 => ?_) (fun h20 => ?_)
    · replace hf := gpos hf h20
      exact b_Part_bracketStands_107 X hf hZ hS (lv_sub hl [1, 2, 5] rfl)
    · replace hf := gneg hf h20
      refine lv_aload_n hx hb (D_42 W_prog_6_method_6_code_64 7 rfl rfl) rfl (lv_at hl 4 rfl) ?_
      refine zget (ci := 4) (C := RX4) (T := TX4) (v := .ref (ad 4 l0 (5 + 1))) (k := 5) hx hb hts inW_4 hown hK hZ g17.1 g17.2 rfl (by decide) k_4_130 rfl (D_180 W_prog_6_method_6_code_64 8 rfl rfl rfl) ?_
      refine lv_iload hx hb (D_21 W_prog_6_method_6_code_64 11 rfl rfl) (lv_at hl 0 rfl) ?_
      obtain ⟨g21, hf⟩ := gif hf
      refine zaldR (t := 1) (x := 7) (ci := 4) (k := 5) hx hb hK rfl rfl hZ g17.1 g17.2 rfl (Nat.le_of_ble_eq_true rfl) g21.1 g21.2 (D_50 W_prog_6_method_6_code_64 13 rfl rfl) ?_
      obtain ⟨g22, hf⟩ := gif hf
      refine zunrf g22.1 ?_
      refine zget (ci := 1) (C := RX1) (T := TX1) (v := .int (iI (F 1 (B 4 l0 5 l9) 5))) (k := 5) hx hb hts inW_1 hown hK hZ g22.1 g22.2 rfl (by decide) k_2_34 rfl (D_180 W_prog_6_method_6_code_64 14 rfl rfl rfl) ?_
      refine lv_iload hx hb (D_21 W_prog_6_method_6_code_64 17 rfl rfl) (lv_at hl 3 rfl) ?_
      obtain ⟨g23, hf⟩ := gif hf
      obtain ⟨g24, hf⟩ := gif hf
      refine zne (tgt := 107) hx hb g23 g24 (D_160 W_prog_6_method_6_code_64 19 rfl rfl rfl) (by decide) (fun h25 => ?_) (fun h25 => ?_)
      · replace hf := gneg hf h25
        exact b_Part_bracketStands_107 X hf hZ hS (lv_sub hl [1, 2, 5] rfl)
      · replace hf := gpos hf h25
        refine lv_lload hx hb (D_22 W_prog_6_method_6_code_64 22 rfl rfl) (lv_at hl 1 rfl) ?_
        refine lv_aload_n hx hb (D_42 W_prog_6_method_6_code_64 24 rfl rfl) rfl (lv_at hl 4 rfl) ?_
        refine zget (ci := 4) (C := RX4) (T := TX4) (v := .ref (ad 4 l0 (5 + 1))) (k := 5) hx hb hts inW_4 hown hK hZ g17.1 g17.2 rfl (by decide) k_4_130 rfl (D_180 W_prog_6_method_6_code_64 25 rfl rfl rfl) ?_
        refine lv_iload hx hb (D_21 W_prog_6_method_6_code_64 28 rfl rfl) (lv_at hl 0 rfl) ?_
        refine zaldR (t := 1) (x := 7) (ci := 4) (k := 5) hx hb hK rfl rfl hZ g17.1 g17.2 rfl (Nat.le_of_ble_eq_true rfl) g21.1 g21.2 (D_50 W_prog_6_method_6_code_64 30 rfl rfl) ?_
        refine zunrf g22.1 ?_
        refine zget (ci := 1) (C := RX1) (T := TX1) (v := .long (lI (F 1 (B 4 l0 5 l9) 1))) (k := 1) hx hb hts inW_1 hown hK hZ g22.1 g22.2 rfl (by decide) k_2_24 rfl (D_180 W_prog_6_method_6_code_64 31 rfl rfl rfl) ?_
        refine zladd hx hb (D_97 W_prog_6_method_6_code_96 2 rfl rfl) ?_
        refine lv_lstore (lv' := [(7, .long (lI (l7 + (F 1 (B 4 l0 5 l9) 1)))), (9, .int (iI l9)), (5, .long (lI l5)), (4, .int (iI l4)), (0, .ref (ad 4 l0 0)), (2, .long (lI l2))]) hx hb (D_55 W_prog_6_method_6_code_96 3 rfl rfl) hl (by decide) rfl (fun ls hl => ?_)
        refine lv_iinc (v := iI (l9 + 1)) (lv' := [(9, .int (iI (l9 + 1))), (7, .long (lI (l7 + (F 1 (B 4 l0 5 l9) 1)))), (5, .long (lI l5)), (4, .int (iI l4)), (0, .ref (ad 4 l0 0)), (2, .long (lI l2))]) hx hb d_6_6_101 hl (k := 1) rfl (iI_add _ 1) (by decide) rfl (fun ls hl => ?_)
        refine lv_goto (tgt := 62) hx hb (D_167 W_prog_6_method_6_code_96 8 rfl rfl rfl) (by decide) ?_
        exact ih hf hZ hS (lv_sub hl [0, 1, 2, 3, 4, 5] rfl)

def f_Part_bracketStands_42 (K : zK)  (F : zF) (B : zB) : zO := some (1, F, B)
set_option maxHeartbeats 4000000 in
set_option maxRecDepth 100000 in
theorem b_Part_bracketStands_42 {D : va_G} {ca : Nat → ClassId} {ad : Nat → Int → Nat → Nat} {L : List Nat} {aS vS : Nat → Nat} {A : Nat → Prop} {p : Program} {l : Launch} {e : Env} {s : State} {m : MethodId} {args : Array Value} {below : List Frame} {meth : Method} {c : Code} {K : zK} {r : Int} {F9 : zF} {B9 : zB} (X : zX D ca L aS vS A p s m args meth c prog_6_method_6_code 10 (Option.some Jvm.ClassFile.FieldType.boolean) "StaveHouse$Part")  {F : zF} {B : zB} {H : Heap} {locs : List Loc} {ls : Array Slot} (hf : f_Part_bracketStands_42 K  F B = some (r, F9, B9)) (hZ : zH D ca ad lnC K.2 L F B A H) (hS : va_S A s.heap H locs) (hl : lv_has ls 10 []) : W p l e ({ frames := 0, cells := 0, slots := 0, locals := 0 } : Room) s m args below meth c H locs 0 0 (MQ below (Q_Part_bracketStands K D ca ad L r F9 B9 A) args s 0 0 A) (F0 m 42 ls []) := by
  obtain ⟨hx, hb, hr, hml, hown, hts, hlk, hK, hA, hL, hX⟩ := id X
  replace hf : (some (1, F, B)) = some (r, F9, B9) := hf
  refine lv_iconst (v := iI 1) hx hb (D_4 W_prog_6_method_6_code_32 10 rfl rfl) rfl ?_
  cases hf
  exact W.zret hx hb hr rfl (fun t ht hW => ⟨⟨_, (), rfl, rfl, by rw [ht]; exact hZ, va_K.moved hW.alike hK⟩, hS.F ht⟩) hS.2.2 (D_172 W_prog_6_method_6_code_32 11 rfl rfl) hlk

def f_Part_bracketStands_36 (K : zK) (l4 : Int) (l0 : Int) (l1 : Int) (l2 : Int) (F : zF) (B : zB) : zO := if r64 l2 then (if 0 < (zcmp l2 0) then if 0 ≤ l0 ∧ l0 < K.2 4 then if 0 ≤ l1 ∧ l1 < 200 then if 0 ≤ (B 4 l0 5 l1) ∧ (B 4 l0 5 l1) < K.2 1 then f_Part_bracketStands_62 K K.1 l1 (F 1 (B 4 l0 5 l1) 0) (F 1 (B 4 l0 5 l1) 0) l4 l0 l2 F B else none else none else none else f_Part_bracketStands_42 K F B) else none
set_option maxHeartbeats 4000000 in
set_option maxRecDepth 100000 in
theorem b_Part_bracketStands_36 {D : va_G} {ca : Nat → ClassId} {ad : Nat → Int → Nat → Nat} {L : List Nat} {aS vS : Nat → Nat} {A : Nat → Prop} {p : Program} {l : Launch} {e : Env} {s : State} {m : MethodId} {args : Array Value} {below : List Frame} {meth : Method} {c : Code} {K : zK} {r : Int} {F9 : zF} {B9 : zB} (X : zX D ca L aS vS A p s m args meth c prog_6_method_6_code 10 (Option.some Jvm.ClassFile.FieldType.boolean) "StaveHouse$Part") {l4 : Int} {l0 : Int} {l1 : Int} {l2 : Int} {F : zF} {B : zB} {H : Heap} {locs : List Loc} {ls : Array Slot} (hf : f_Part_bracketStands_36 K l4 l0 l1 l2 F B = some (r, F9, B9)) (hZ : zH D ca ad lnC K.2 L F B A H) (hS : va_S A s.heap H locs) (hl : lv_has ls 10 [(4, .int (iI l4)), (0, .ref (ad 4 l0 0)), (1, .int (iI l1)), (2, .long (lI l2))]) : W p l e ({ frames := 0, cells := 0, slots := 0, locals := 0 } : Room) s m args below meth c H locs 0 0 (MQ below (Q_Part_bracketStands K D ca ad L r F9 B9 A) args s 0 0 A) (F0 m 36 ls []) := by
  obtain ⟨hx, hb, hr, hml, hown, hts, hlk, hK, hA, hL, hX⟩ := id X
  replace hf : (if r64 l2 then (if 0 < (zcmp l2 0) then if 0 ≤ l0 ∧ l0 < K.2 4 then if 0 ≤ l1 ∧ l1 < 200 then if 0 ≤ (B 4 l0 5 l1) ∧ (B 4 l0 5 l1) < K.2 1 then f_Part_bracketStands_62 K K.1 l1 (F 1 (B 4 l0 5 l1) 0) (F 1 (B 4 l0 5 l1) 0) l4 l0 l2 F B else none else none else none else f_Part_bracketStands_42 K F B) else none) = some (r, F9, B9) := hf
  refine lv_lload_n hx hb (D_32 W_prog_6_method_6_code_32 4 rfl rfl) rfl (lv_at hl 3 rfl) ?_
  refine lv_lconst (v := lI 0) hx hb (D_9 W_prog_6_method_6_code_32 5 rfl rfl) (by decide) ?_
  obtain ⟨g12, hf⟩ := gif hf
  refine zcmp_r hx hb g12 (by decide) (D_148 W_prog_6_method_6_code_32 6 rfl rfl) ?_
  refine z0gt (tgt := 44) hx hb zcmp_32 (D_157 W_prog_6_method_6_code_32 7 rfl rfl rfl) (by decide) (fun h13 => ?_) (fun h13 => ?_)
  · replace hf := gpos hf h13
    refine lv_aload_n hx hb (D_42 W_prog_6_method_6_code_32 12 rfl rfl) rfl (lv_at hl 1 rfl) ?_
    obtain ⟨g14, hf⟩ := gif hf
    refine zget (ci := 4) (C := RX4) (T := TX4) (v := .ref (ad 4 l0 (5 + 1))) (k := 5) hx hb hts inW_4 hown hK hZ g14.1 g14.2 rfl (by decide) k_4_130 rfl (D_180 W_prog_6_method_6_code_32 13 rfl rfl rfl) ?_
    refine lv_iload_n hx hb (D_27 W_prog_6_method_6_code_32 16 rfl rfl) rfl (lv_at hl 2 rfl) ?_
    obtain ⟨g15, hf⟩ := gif hf
    refine zaldR (t := 1) (x := 7) (ci := 4) (k := 5) hx hb hK rfl rfl hZ g14.1 g14.2 rfl (Nat.le_of_ble_eq_true rfl) g15.1 g15.2 (D_50 W_prog_6_method_6_code_32 17 rfl rfl) ?_
    obtain ⟨g16, hf⟩ := gif hf
    refine zunrf g16.1 ?_
    refine zget (ci := 1) (C := RX1) (T := TX1) (v := .long (lI (F 1 (B 4 l0 5 l1) 0))) (k := 0) hx hb hts inW_1 hown hK hZ g16.1 g16.2 rfl (by decide) k_2_21 rfl (D_180 W_prog_6_method_6_code_32 18 rfl rfl rfl) ?_
    refine lv_lstore (lv' := [(5, .long (lI (F 1 (B 4 l0 5 l1) 0))), (4, .int (iI l4)), (0, .ref (ad 4 l0 0)), (1, .int (iI l1)), (2, .long (lI l2))]) hx hb (D_55 W_prog_6_method_6_code_32 21 rfl rfl) hl (by decide) rfl (fun ls hl => ?_)
    refine lv_lload hx hb (D_22 W_prog_6_method_6_code_32 23 rfl rfl) (lv_at hl 0 rfl) ?_
    refine lv_lstore (lv' := [(7, .long (lI (F 1 (B 4 l0 5 l1) 0))), (5, .long (lI (F 1 (B 4 l0 5 l1) 0))), (4, .int (iI l4)), (0, .ref (ad 4 l0 0)), (1, .int (iI l1)), (2, .long (lI l2))]) hx hb (D_55 W_prog_6_method_6_code_32 25 rfl rfl) hl (by decide) rfl (fun ls hl => ?_)
    refine lv_iload_n hx hb (D_27 W_prog_6_method_6_code_32 27 rfl rfl) rfl (lv_at hl 4 rfl) ?_
    refine lv_istore (lv' := [(9, .int (iI l1)), (7, .long (lI (F 1 (B 4 l0 5 l1) 0))), (5, .long (lI (F 1 (B 4 l0 5 l1) 0))), (4, .int (iI l4)), (0, .ref (ad 4 l0 0)), (1, .int (iI l1)), (2, .long (lI l2))]) hx hb (D_54 W_prog_6_method_6_code_32 28 rfl rfl) hl (by decide) rfl (fun ls hl => ?_)
    exact b_Part_bracketStands_62 X hf hZ hS (lv_sub hl [0, 1, 2, 3, 4, 6] rfl)
  · replace hf := gneg hf h13
    exact b_Part_bracketStands_42 X hf hZ hS (lv_sub hl [] rfl)

def f_Part_bracketStands (K : zK) (l0 : Int) (l1 : Int) (l2 : Int) (F : zF) (B : zB) : zO := if 0 ≤ l0 ∧ l0 < K.2 4 then if 0 ≤ l1 ∧ l1 < 200 then if 0 ≤ (B 4 l0 5 l1) ∧ (B 4 l0 5 l1) < K.2 1 then if r32 (F 1 (B 4 l0 5 l1) 5) then (if (F 1 (B 4 l0 5 l1) 5) = 0 then f_Part_bracketStands_42 K F B else if r32 l1 then (if l1 ≤ 0 then f_Part_bracketStands_36 K (F 1 (B 4 l0 5 l1) 5) l0 l1 l2 F B else if 0 ≤ (l1 - 1) ∧ (l1 - 1) < 200 then if 0 ≤ (B 4 l0 5 (l1 - 1)) ∧ (B 4 l0 5 (l1 - 1)) < K.2 1 then if r32 (F 1 (B 4 l0 5 (l1 - 1)) 5) then (if (F 1 (B 4 l0 5 (l1 - 1)) 5) = (F 1 (B 4 l0 5 l1) 5) then f_Part_bracketStands_42 K F B else f_Part_bracketStands_36 K (F 1 (B 4 l0 5 l1) 5) l0 l1 l2 F B) else none else none else none) else none) else none else none else none else none
set_option maxHeartbeats 4000000 in
set_option maxRecDepth 100000 in
theorem c_Part_bracketStands {l : Launch} {D : va_G} {ca : Nat → ClassId} {ad : Nat → Int → Nat → Nat} {L : List Nat} {aS vS : Nat → Nat} {sz : Nat} {K : zK}  {l0 : Int} {l1 : Int} {l2 : Int} {F F9 : zF} {B B9 : zB} {r : Int} (hf : f_Part_bracketStands K l0 l1 l2 F B = some (r, F9, B9)) : Met l ({ cls := "StaveHouse$Part", name := "bracketStands", desc := "(IJ)Z" } : Jvm.MethodName) (Cond.code ({ cls := "StaveHouse$Part", name := "bracketStands", desc := "(IJ)Z" } : Jvm.MethodName) prog_6_method_6_code 10 (Option.some Jvm.ClassFile.FieldType.boolean) :: wAll) ({ frames := 0, cells := 0, slots := 0, locals := 0 } : Room) (va_Pc [.ref (ad 4 l0 0), .int (iI l1), .long (lI l2)] (zPre D ca ad lnC K.2 L aS vS F B sz)) (Q_Part_bracketStands K D ca ad L r F9 B9 (zA L sz)) 0 0 (zA L sz) := by
  refine zMet (Qc := Q_Part_bracketStands K D ca ad L r F9 B9) (lv := [(0, .ref (ad 4 l0 0)), (1, .int (iI l1)), (2, .long (lI l2))]) (by decide) (Nat.le_of_ble_eq_true rfl) rfl (fun A p e s m below meth c ls X hZ hS hl => ?_)
  obtain ⟨hx, hb, hr, hml, hown, hts, hlk, hK, hA, hL, hX⟩ := id X
  replace hf : (if 0 ≤ l0 ∧ l0 < K.2 4 then if 0 ≤ l1 ∧ l1 < 200 then if 0 ≤ (B 4 l0 5 l1) ∧ (B 4 l0 5 l1) < K.2 1 then if r32 (F 1 (B 4 l0 5 l1) 5) then (if (F 1 (B 4 l0 5 l1) 5) = 0 then f_Part_bracketStands_42 K F B else if r32 l1 then (if l1 ≤ 0 then f_Part_bracketStands_36 K (F 1 (B 4 l0 5 l1) 5) l0 l1 l2 F B else if 0 ≤ (l1 - 1) ∧ (l1 - 1) < 200 then if 0 ≤ (B 4 l0 5 (l1 - 1)) ∧ (B 4 l0 5 (l1 - 1)) < K.2 1 then if r32 (F 1 (B 4 l0 5 (l1 - 1)) 5) then (if (F 1 (B 4 l0 5 (l1 - 1)) 5) = (F 1 (B 4 l0 5 l1) 5) then f_Part_bracketStands_42 K F B else f_Part_bracketStands_36 K (F 1 (B 4 l0 5 l1) 5) l0 l1 l2 F B) else none else none else none) else none) else none else none else none else none) = some (r, F9, B9) := hf
  refine lv_aload_n hx hb (D_42 W_prog_6_method_6_code_0 0 rfl rfl) rfl (lv_at hl 0 rfl) ?_
  obtain ⟨g1, hf⟩ := gif hf
  refine zget (ci := 4) (C := RX4) (T := TX4) (v := .ref (ad 4 l0 (5 + 1))) (k := 5) hx hb hts inW_4 hown hK hZ g1.1 g1.2 rfl (by decide) k_4_130 rfl (D_180 W_prog_6_method_6_code_0 1 rfl rfl rfl) ?_
  refine lv_iload_n hx hb (D_27 W_prog_6_method_6_code_0 4 rfl rfl) rfl (lv_at hl 1 rfl) ?_
  obtain ⟨g2, hf⟩ := gif hf
  refine zaldR (t := 1) (x := 7) (ci := 4) (k := 5) hx hb hK rfl rfl hZ g1.1 g1.2 rfl (Nat.le_of_ble_eq_true rfl) g2.1 g2.2 (D_50 W_prog_6_method_6_code_0 5 rfl rfl) ?_
  obtain ⟨g3, hf⟩ := gif hf
  refine zunrf g3.1 ?_
  refine zget (ci := 1) (C := RX1) (T := TX1) (v := .int (iI (F 1 (B 4 l0 5 l1) 5))) (k := 5) hx hb hts inW_1 hown hK hZ g3.1 g3.2 rfl (by decide) k_2_34 rfl (D_180 W_prog_6_method_6_code_0 6 rfl rfl rfl) ?_
  refine lv_istore (lv' := [(4, .int (iI (F 1 (B 4 l0 5 l1) 5))), (0, .ref (ad 4 l0 0)), (1, .int (iI l1)), (2, .long (lI l2))]) hx hb (D_54 W_prog_6_method_6_code_0 9 rfl rfl) hl (by decide) rfl (fun ls hl => ?_)
  refine lv_iload hx hb (D_21 W_prog_6_method_6_code_0 11 rfl rfl) (lv_at hl 0 rfl) ?_
  obtain ⟨g4, hf⟩ := gif hf
  refine z0eq (tgt := 42) hx hb g4 (D_153 W_prog_6_method_6_code_0 13 rfl rfl rfl) (by decide) (fun h5 => ?_) (fun h5 => ?_)
  · replace hf := gpos hf h5
    exact b_Part_bracketStands_42 X hf hZ hS (lv_sub hl [] rfl)
  · replace hf := gneg hf h5
    refine lv_iload_n hx hb (D_27 W_prog_6_method_6_code_0 16 rfl rfl) rfl (lv_at hl 2 rfl) ?_
    obtain ⟨g6, hf⟩ := gif hf
    refine z0le (tgt := 36) hx hb g6 (D_158 W_prog_6_method_6_code_0 17 rfl rfl rfl) (by decide) (fun h7 => ?_) (fun h7 => ?_)
    · replace hf := gpos hf h7
      exact b_Part_bracketStands_36 X hf hZ hS (lv_sub hl [0, 1, 2, 3] rfl)
    · replace hf := gneg hf h7
      refine lv_aload_n hx hb (D_42 W_prog_6_method_6_code_0 20 rfl rfl) rfl (lv_at hl 1 rfl) ?_
      refine zget (ci := 4) (C := RX4) (T := TX4) (v := .ref (ad 4 l0 (5 + 1))) (k := 5) hx hb hts inW_4 hown hK hZ g1.1 g1.2 rfl (by decide) k_4_130 rfl (D_180 W_prog_6_method_6_code_0 21 rfl rfl rfl) ?_
      refine lv_iload_n hx hb (D_27 W_prog_6_method_6_code_0 24 rfl rfl) rfl (lv_at hl 2 rfl) ?_
      refine lv_iconst (v := iI 1) hx hb (D_4 W_prog_6_method_6_code_0 25 rfl rfl) rfl ?_
      refine zsub hx hb (D_100 W_prog_6_method_6_code_0 26 rfl rfl) ?_
      obtain ⟨g8, hf⟩ := gif hf
      refine zaldR (t := 1) (x := 7) (ci := 4) (k := 5) hx hb hK rfl rfl hZ g1.1 g1.2 rfl (Nat.le_of_ble_eq_true rfl) g8.1 g8.2 (D_50 W_prog_6_method_6_code_0 27 rfl rfl) ?_
      obtain ⟨g9, hf⟩ := gif hf
      refine zunrf g9.1 ?_
      refine zget (ci := 1) (C := RX1) (T := TX1) (v := .int (iI (F 1 (B 4 l0 5 (l1 - 1)) 5))) (k := 5) hx hb hts inW_1 hown hK hZ g9.1 g9.2 rfl (by decide) k_2_34 rfl (D_180 W_prog_6_method_6_code_0 28 rfl rfl rfl) ?_
      refine lv_iload hx hb (D_21 W_prog_6_method_6_code_0 31 rfl rfl) (lv_at hl 0 rfl) ?_
      obtain ⟨g10, hf⟩ := gif hf
      refine zeq (tgt := 42) hx hb g10 g4 (D_159 W_prog_6_method_6_code_32 1 rfl rfl rfl) (by decide) (fun h11 => ?_) (fun h11 => ?_)
      · replace hf := gpos hf h11
        exact b_Part_bracketStands_42 X hf hZ hS (lv_sub hl [] rfl)
      · replace hf := gneg hf h11
        exact b_Part_bracketStands_36 X hf hZ hS (lv_sub hl [0, 1, 2, 3] rfl)

abbrev Q_Event_hasPitch (K : zK) (D : va_G) (ca : Nat → ClassId) (ad : Nat → Int → Nat → Nat) (L : List Nat) (r : Int) (F : zF) (B : zB) (A : Nat → Prop) : Array Value → State → Outcome → State → Prop := va_Qi (S := Unit) (fun p _ => p = iI r) (fun _ => zPo D ca ad lnC K.2 L F B A) A
def f_Event_hasPitch_32 (rec2 : Int → Int → Int → Int → zF → zB → zO) (K : zK) (l3 : Int) (l0 : Int) (l1 : Int) (l2 : Int) (F : zF) (B : zB) : zO := rec2 (l3 + 1) l0 l1 l2 F B
set_option maxHeartbeats 4000000 in
set_option maxRecDepth 100000 in
theorem b_Event_hasPitch_32 {D : va_G} {ca : Nat → ClassId} {ad : Nat → Int → Nat → Nat} {L : List Nat} {aS vS : Nat → Nat} {A : Nat → Prop} {p : Program} {l : Launch} {e : Env} {s : State} {m : MethodId} {args : Array Value} {below : List Frame} {meth : Method} {c : Code} {K : zK} {r : Int} {F9 : zF} {B9 : zB} (X : zX D ca L aS vS A p s m args meth c prog_3_method_6_code 4 (Option.some Jvm.ClassFile.FieldType.boolean) "StaveHouse$Event") {rec2 : Int → Int → Int → Int → zF → zB → zO} (hrec2 : ∀ {l3 : Int} {l0 : Int} {l1 : Int} {l2 : Int} {F : zF} {B : zB} {H : Heap} {locs : List Loc} {ls : Array Slot}, rec2 l3 l0 l1 l2 F B = some (r, F9, B9) → zH D ca ad lnC K.2 L F B A H → va_S A s.heap H locs → lv_has ls 4 [(3, .int (iI l3)), (0, .ref (ad 1 l0 0)), (1, .int (iI l1)), (2, .int (iI l2))] → W p l e ({ frames := 0, cells := 0, slots := 0, locals := 0 } : Room) s m args below meth c H locs 0 0 (MQ below (Q_Event_hasPitch K D ca ad L r F9 B9 A) args s 0 0 A) (F0 m 2 ls [])) {l3 : Int} {l0 : Int} {l1 : Int} {l2 : Int} {F : zF} {B : zB} {H : Heap} {locs : List Loc} {ls : Array Slot} (hf : f_Event_hasPitch_32 rec2 K l3 l0 l1 l2 F B = some (r, F9, B9)) (hZ : zH D ca ad lnC K.2 L F B A H) (hS : va_S A s.heap H locs) (hl : lv_has ls 4 [(3, .int (iI l3)), (0, .ref (ad 1 l0 0)), (1, .int (iI l1)), (2, .int (iI l2))]) : W p l e ({ frames := 0, cells := 0, slots := 0, locals := 0 } : Room) s m args below meth c H locs 0 0 (MQ below (Q_Event_hasPitch K D ca ad L r F9 B9 A) args s 0 0 A) (F0 m 32 ls []) := by
  obtain ⟨hx, hb, hr, hml, hown, hts, hlk, hK, hA, hL, hX⟩ := id X
  replace hf : (rec2 (l3 + 1) l0 l1 l2 F B) = some (r, F9, B9) := hf
  refine lv_iinc (v := iI (l3 + 1)) (lv' := [(3, .int (iI (l3 + 1))), (0, .ref (ad 1 l0 0)), (1, .int (iI l1)), (2, .int (iI l2))]) hx hb d_3_6_32 hl (k := 0) rfl (iI_add _ 1) (by decide) rfl (fun ls hl => ?_)
  refine lv_goto (tgt := 2) hx hb (D_167 W_prog_3_method_6_code_32 3 rfl rfl rfl) (by decide) ?_
  exact hrec2 hf hZ hS (lv_sub hl [0, 1, 2, 3] rfl)

def f_Event_hasPitch_2 (K : zK) : Nat → Int → Int → Int → Int → zF → zB → zO
  | 0, _, _, _, _, _, _ => none
  | n + 1, l3, l0, l1, l2, F, B => if 0 ≤ l0 ∧ l0 < K.2 1 then if r32 l3 then if r32 (F 1 l0 10) then (if (F 1 l0 10) ≤ l3 then some (0, F, B) else if 0 ≤ l3 ∧ l3 < 6 then if r32 (B 1 l0 12 l3) then if r32 l1 then (if (B 1 l0 12 l3) = l1 then if r32 (B 1 l0 13 l3) then if r32 l2 then (if (B 1 l0 13 l3) = l2 then some (1, F, B) else f_Event_hasPitch_32 (f_Event_hasPitch_2 K n) K l3 l0 l1 l2 F B) else none else none else f_Event_hasPitch_32 (f_Event_hasPitch_2 K n) K l3 l0 l1 l2 F B) else none else none else none) else none else none else none
set_option maxHeartbeats 4000000 in
set_option maxRecDepth 100000 in
theorem b_Event_hasPitch_2 {D : va_G} {ca : Nat → ClassId} {ad : Nat → Int → Nat → Nat} {L : List Nat} {aS vS : Nat → Nat} {A : Nat → Prop} {p : Program} {l : Launch} {e : Env} {s : State} {m : MethodId} {args : Array Value} {below : List Frame} {meth : Method} {c : Code} {K : zK} {r : Int} {F9 : zF} {B9 : zB} (X : zX D ca L aS vS A p s m args meth c prog_3_method_6_code 4 (Option.some Jvm.ClassFile.FieldType.boolean) "StaveHouse$Event") : ∀ {n : Nat} {l3 : Int} {l0 : Int} {l1 : Int} {l2 : Int} {F : zF} {B : zB} {H : Heap} {locs : List Loc} {ls : Array Slot}, f_Event_hasPitch_2 K n l3 l0 l1 l2 F B = some (r, F9, B9) → zH D ca ad lnC K.2 L F B A H → va_S A s.heap H locs → lv_has ls 4 [(3, .int (iI l3)), (0, .ref (ad 1 l0 0)), (1, .int (iI l1)), (2, .int (iI l2))] → W p l e ({ frames := 0, cells := 0, slots := 0, locals := 0 } : Room) s m args below meth c H locs 0 0 (MQ below (Q_Event_hasPitch K D ca ad L r F9 B9 A) args s 0 0 A) (F0 m 2 ls []) := by
  obtain ⟨hx, hb, hr, hml, hown, hts, hlk, hK, hA, hL, hX⟩ := id X
  intro n
  induction n with
  | zero =>
    intros
    rename_i hf _ _ _
    cases hf
  | succ n ih =>
    intro l3 l0 l1 l2 F B H locs ls hf hZ hS hl
    replace hf : (if 0 ≤ l0 ∧ l0 < K.2 1 then if r32 l3 then if r32 (F 1 l0 10) then (if (F 1 l0 10) ≤ l3 then some (0, F, B) else if 0 ≤ l3 ∧ l3 < 6 then if r32 (B 1 l0 12 l3) then if r32 l1 then (if (B 1 l0 12 l3) = l1 then if r32 (B 1 l0 13 l3) then if r32 l2 then (if (B 1 l0 13 l3) = l2 then some (1, F, B) else f_Event_hasPitch_32 (f_Event_hasPitch_2 K n) K l3 l0 l1 l2 F B) else none else none else f_Event_hasPitch_32 (f_Event_hasPitch_2 K n) K l3 l0 l1 l2 F B) else none else none else none) else none else none else none) = some (r, F9, B9) := hf
    refine lv_iload_n hx hb (D_29 W_prog_3_method_6_code_0 2 rfl rfl) rfl (lv_at hl 0 rfl) ?_
    refine lv_aload_n hx hb (D_42 W_prog_3_method_6_code_0 3 rfl rfl) rfl (lv_at hl 1 rfl) ?_
    obtain ⟨g1, hf⟩ := gif hf
    refine zget (ci := 1) (C := RX1) (T := TX1) (v := .int (iI (F 1 l0 10))) (k := 10) hx hb hts inW_1 hown hK hZ g1.1 g1.2 rfl (by decide) k_2_48 rfl (D_180 W_prog_3_method_6_code_0 4 rfl rfl rfl) ?_
    obtain ⟨g2, hf⟩ := gif hf
    obtain ⟨g3, hf⟩ := gif hf
    refine zge (tgt := 38) hx hb g2 g3 (D_162 W_prog_3_method_6_code_0 7 rfl rfl rfl) (by decide) (fun h4 => ?_) (fun h4 => ?_)
    · replace hf := gpos hf h4
      refine lv_iconst (v := iI 0) hx hb (D_3 W_prog_3_method_6_code_32 6 rfl rfl) rfl ?_
      cases hf
      exact W.zret hx hb hr rfl (fun t ht hW => ⟨⟨_, (), rfl, rfl, by rw [ht]; exact hZ, va_K.moved hW.alike hK⟩, hS.F ht⟩) hS.2.2 (D_172 W_prog_3_method_6_code_32 7 rfl rfl) hlk
    · replace hf := gneg hf h4
      refine lv_aload_n hx hb (D_42 W_prog_3_method_6_code_0 10 rfl rfl) rfl (lv_at hl 1 rfl) ?_
      refine zget (ci := 1) (C := RX1) (T := TX1) (v := .ref (ad 1 l0 (12 + 1))) (k := 12) hx hb hts inW_1 hown hK hZ g1.1 g1.2 rfl (by decide) k_2_57 rfl (D_180 W_prog_3_method_6_code_0 11 rfl rfl rfl) ?_
      refine lv_iload_n hx hb (D_29 W_prog_3_method_6_code_0 14 rfl rfl) rfl (lv_at hl 0 rfl) ?_
      obtain ⟨g5, hf⟩ := gif hf
      refine zald (ci := 1) (k := 12) hx hb hK rfl hZ g1.1 g1.2 rfl (Nat.le_of_ble_eq_true rfl) g5.1 g5.2 (D_46 W_prog_3_method_6_code_0 15 rfl rfl) ?_
      refine lv_iload_n hx hb (D_27 W_prog_3_method_6_code_0 16 rfl rfl) rfl (lv_at hl 2 rfl) ?_
      obtain ⟨g6, hf⟩ := gif hf
      obtain ⟨g7, hf⟩ := gif hf
      refine zne (tgt := 32) hx hb g6 g7 (D_160 W_prog_3_method_6_code_0 17 rfl rfl rfl) (by decide) (fun h8 => ?_) (fun h8 => ?_)
      · replace hf := gneg hf h8
        exact b_Event_hasPitch_32 X ih hf hZ hS (lv_sub hl [0, 1, 2, 3] rfl)
      · replace hf := gpos hf h8
        refine lv_aload_n hx hb (D_42 W_prog_3_method_6_code_0 20 rfl rfl) rfl (lv_at hl 1 rfl) ?_
        refine zget (ci := 1) (C := RX1) (T := TX1) (v := .ref (ad 1 l0 (13 + 1))) (k := 13) hx hb hts inW_1 hown hK hZ g1.1 g1.2 rfl (by decide) k_2_63 rfl (D_180 W_prog_3_method_6_code_0 21 rfl rfl rfl) ?_
        refine lv_iload_n hx hb (D_29 W_prog_3_method_6_code_0 24 rfl rfl) rfl (lv_at hl 0 rfl) ?_
        refine zald (ci := 1) (k := 13) hx hb hK rfl hZ g1.1 g1.2 rfl (Nat.le_of_ble_eq_true rfl) g5.1 g5.2 (D_46 W_prog_3_method_6_code_0 25 rfl rfl) ?_
        refine lv_iload_n hx hb (D_28 W_prog_3_method_6_code_0 26 rfl rfl) rfl (lv_at hl 3 rfl) ?_
        obtain ⟨g9, hf⟩ := gif hf
        obtain ⟨g10, hf⟩ := gif hf
        refine zne (tgt := 32) hx hb g9 g10 (D_160 W_prog_3_method_6_code_0 27 rfl rfl rfl) (by decide) (fun h11 => ?_) (fun h11 => ?_)
        · replace hf := gneg hf h11
          exact b_Event_hasPitch_32 X ih hf hZ hS (lv_sub hl [0, 1, 2, 3] rfl)
        · replace hf := gpos hf h11
          refine lv_iconst (v := iI 1) hx hb (D_4 W_prog_3_method_6_code_0 30 rfl rfl) rfl ?_
          cases hf
          exact W.zret hx hb hr rfl (fun t ht hW => ⟨⟨_, (), rfl, rfl, by rw [ht]; exact hZ, va_K.moved hW.alike hK⟩, hS.F ht⟩) hS.2.2 (D_172 W_prog_3_method_6_code_0 31 rfl rfl) hlk

def f_Event_hasPitch (K : zK) (l0 : Int) (l1 : Int) (l2 : Int) (F : zF) (B : zB) : zO := f_Event_hasPitch_2 K K.1 0 l0 l1 l2 F B
set_option maxHeartbeats 4000000 in
set_option maxRecDepth 100000 in
theorem c_Event_hasPitch {l : Launch} {D : va_G} {ca : Nat → ClassId} {ad : Nat → Int → Nat → Nat} {L : List Nat} {aS vS : Nat → Nat} {sz : Nat} {K : zK}  {l0 : Int} {l1 : Int} {l2 : Int} {F F9 : zF} {B B9 : zB} {r : Int} (hf : f_Event_hasPitch K l0 l1 l2 F B = some (r, F9, B9)) : Met l ({ cls := "StaveHouse$Event", name := "hasPitch", desc := "(II)Z" } : Jvm.MethodName) (Cond.code ({ cls := "StaveHouse$Event", name := "hasPitch", desc := "(II)Z" } : Jvm.MethodName) prog_3_method_6_code 4 (Option.some Jvm.ClassFile.FieldType.boolean) :: wAll) ({ frames := 0, cells := 0, slots := 0, locals := 0 } : Room) (va_Pc [.ref (ad 1 l0 0), .int (iI l1), .int (iI l2)] (zPre D ca ad lnC K.2 L aS vS F B sz)) (Q_Event_hasPitch K D ca ad L r F9 B9 (zA L sz)) 0 0 (zA L sz) := by
  refine zMet (Qc := Q_Event_hasPitch K D ca ad L r F9 B9) (lv := [(0, .ref (ad 1 l0 0)), (1, .int (iI l1)), (2, .int (iI l2))]) (by decide) (Nat.le_of_ble_eq_true rfl) rfl (fun A p e s m below meth c ls X hZ hS hl => ?_)
  obtain ⟨hx, hb, hr, hml, hown, hts, hlk, hK, hA, hL, hX⟩ := id X
  replace hf : (f_Event_hasPitch_2 K K.1 0 l0 l1 l2 F B) = some (r, F9, B9) := hf
  refine lv_iconst (v := iI 0) hx hb (D_3 W_prog_3_method_6_code_0 0 rfl rfl) rfl ?_
  refine lv_istore_n (lv' := [(3, .int (iI 0)), (0, .ref (ad 1 l0 0)), (1, .int (iI l1)), (2, .int (iI l2))]) hx hb (D_62 W_prog_3_method_6_code_0 1 rfl rfl) rfl hl (by decide) rfl (fun ls hl => ?_)
  exact b_Event_hasPitch_2 X hf hZ hS (lv_sub hl [0, 1, 2, 3] rfl)

abbrev Q_S_fineValue (K : zK) (D : va_G) (ca : Nat → ClassId) (ad : Nat → Int → Nat → Nat) (L : List Nat) (r : Int) (F : zF) (B : zB) (A : Nat → Prop) : Array Value → State → Outcome → State → Prop := va_Qi (S := Unit) (fun p _ => p = iI r) (fun _ => zPo D ca ad lnC K.2 L F B A) A
def f_S_fineValue (K : zK) (l0 : Int) (F : zF) (B : zB) : zO := if 0 ≤ (2 - (zrm l0 3)) ∧ (2 - (zrm l0 3)) < ztl 4 then some (zdv ((zshr 512 (zdv l0 3)) * (ztv 4 (2 - (zrm l0 3)))) 4, F, B) else none
set_option maxHeartbeats 4000000 in
set_option maxRecDepth 100000 in
theorem c_S_fineValue {l : Launch} {D : va_G} {ca : Nat → ClassId} {ad : Nat → Int → Nat → Nat} {L : List Nat} {aS vS : Nat → Nat} {sz : Nat} {K : zK}  {l0 : Int} {F F9 : zF} {B B9 : zB} {r : Int} (hf : f_S_fineValue K l0 F B = some (r, F9, B9)) : Met l ({ cls := "StaveHouse", name := "fineValue", desc := "(I)I" } : Jvm.MethodName) (Cond.code ({ cls := "StaveHouse", name := "fineValue", desc := "(I)I" } : Jvm.MethodName) prog_1_method_40_code 1 (Option.some Jvm.ClassFile.FieldType.int) :: wAll) ({ frames := 0, cells := 0, slots := 0, locals := 0 } : Room) (va_Pc [.int (iI l0)] (zPre D ca ad lnC K.2 L aS vS F B sz)) (Q_S_fineValue K D ca ad L r F9 B9 (zA L sz)) 0 0 (zA L sz) := by
  refine zMet (Qc := Q_S_fineValue K D ca ad L r F9 B9) (lv := [(0, .int (iI l0))]) (by decide) (Nat.le_of_ble_eq_true rfl) rfl (fun A p e s m below meth c ls X hZ hS hl => ?_)
  obtain ⟨hx, hb, hr, hml, hown, hts, hlk, hK, hA, hL, hX⟩ := id X
  replace hf : (if 0 ≤ (2 - (zrm l0 3)) ∧ (2 - (zrm l0 3)) < ztl 4 then some (zdv ((zshr 512 (zdv l0 3)) * (ztv 4 (2 - (zrm l0 3)))) 4, F, B) else none) = some (r, F9, B9) := hf
  refine lv_sipush (v := iI 512) hx hb (D_17 W_prog_1_method_40_code_0 0 rfl rfl rfl) (by decide) ?_
  refine lv_iload_n hx hb (D_26 W_prog_1_method_40_code_0 3 rfl rfl) rfl (lv_at hl 0 rfl) ?_
  refine lv_iconst (v := iI 3) hx hb (D_6 W_prog_1_method_40_code_0 4 rfl rfl) rfl ?_
  refine zdv_r hx hb (by decide) (D_108 W_prog_1_method_40_code_0 5 rfl rfl) ?_
  refine zshr_r hx hb (D_122 W_prog_1_method_40_code_0 6 rfl rfl) ?_
  refine va_gets hx hb (hX.2.2.2.2.2.2 4 _ rfl).1 hS hown (hts _ k_5_70) (fun _ h => h) (D_178 W_prog_1_method_40_code_0 7 rfl rfl rfl) ?_
  refine W.eq (g2 := F0 m 10 ls [.ref (vS (1000 + 4)), .int (iI (zshr 512 (zdv l0 3)))]) rfl ?_
  refine lv_iconst (v := iI 2) hx hb (D_5 W_prog_1_method_40_code_0 10 rfl rfl) rfl ?_
  refine lv_iload_n hx hb (D_26 W_prog_1_method_40_code_0 11 rfl rfl) rfl (lv_at hl 0 rfl) ?_
  refine lv_iconst (v := iI 3) hx hb (D_6 W_prog_1_method_40_code_0 12 rfl rfl) rfl ?_
  refine zrm_r hx hb (by decide) (D_112 W_prog_1_method_40_code_0 13 rfl rfl) ?_
  refine zsub hx hb (D_100 W_prog_1_method_40_code_0 14 rfl rfl) ?_
  obtain ⟨g1, hf⟩ := gif hf
  refine va_ti (v := .int (iI (ztv 4 (2 - (zrm l0 3))))) hx hb (ztI hX (by decide) (by decide)) hS (zt_in (by decide) g1) (ztI_v (by decide) g1) (D_46 W_prog_1_method_40_code_0 15 rfl rfl) ?_
  refine zmul hx hb (D_104 W_prog_1_method_40_code_0 16 rfl rfl) ?_
  refine lv_iconst (v := iI 4) hx hb (D_7 W_prog_1_method_40_code_0 17 rfl rfl) rfl ?_
  refine zdv_r hx hb (by decide) (D_108 W_prog_1_method_40_code_0 18 rfl rfl) ?_
  cases hf
  exact W.iret hx hb hr (fun t ht hW => ⟨⟨_, (), rfl, rfl, by rw [ht]; exact hZ, va_K.moved hW.alike hK⟩, hS.F ht⟩) hS.2.2 (D_172 W_prog_1_method_40_code_0 19 rfl rfl) hlk

abbrev Q_Part_addNote (K : zK) (D : va_G) (ca : Nat → ClassId) (ad : Nat → Int → Nat → Nat) (L : List Nat) (r : Int) (F : zF) (B : zB) (A : Nat → Prop) : Array Value → State → Outcome → State → Prop := va_Qv (S := Unit) (fun _ => True) (fun _ => zPo D ca ad lnC K.2 L F B A) A
def f_Part_addNote (K : zK) (l0 : Int) (l1 : Int) (l2 : Int) (l3 : Int) (l5 : Int) (F : zF) (B : zB) : zO := if 0 ≤ l0 ∧ l0 < K.2 4 then if r32 (F 4 l0 10) then (if (F 4 l0 10) < 800 then if 0 ≤ (F 4 l0 10) ∧ (F 4 l0 10) < 800 then some (0, (zup3 F 4 l0 10 ((F 4 l0 10) + 1)), (zup4 (zup4 (zup4 (zup4 (zup4 B 4 l0 360 (F 4 l0 10) l1) 4 l0 361 (F 4 l0 10) l2) 4 l0 9 (F 4 l0 10) l3) 4 l0 364 (F 4 l0 10) (zdv l5 3)) 4 l0 365 (F 4 l0 10) (2 - (zrm l5 3)))) else none else some (0, (zup3 F 4 l0 11 1), B)) else none else none
set_option maxHeartbeats 4000000 in
set_option maxRecDepth 100000 in
theorem c_Part_addNote {l : Launch} {D : va_G} {ca : Nat → ClassId} {ad : Nat → Int → Nat → Nat} {L : List Nat} {aS vS : Nat → Nat} {sz : Nat} {K : zK}  {l0 : Int} {l1 : Int} {l2 : Int} {l3 : Int} {l5 : Int} {F F9 : zF} {B B9 : zB} {r : Int} (hf : f_Part_addNote K l0 l1 l2 l3 l5 F B = some (r, F9, B9)) : Met l ({ cls := "StaveHouse$Part", name := "addNote", desc := "(IIJI)V" } : Jvm.MethodName) (Cond.code ({ cls := "StaveHouse$Part", name := "addNote", desc := "(IIJI)V" } : Jvm.MethodName) prog_6_method_13_code 7 (Option.none : Option Jvm.ClassFile.FieldType) :: wAll) ({ frames := 0, cells := 0, slots := 0, locals := 0 } : Room) (va_Pc [.ref (ad 4 l0 0), .int (iI l1), .int (iI l2), .long (lI l3), .int (iI l5)] (zPre D ca ad lnC K.2 L aS vS F B sz)) (Q_Part_addNote K D ca ad L r F9 B9 (zA L sz)) 0 0 (zA L sz) := by
  refine zMet (Qc := Q_Part_addNote K D ca ad L r F9 B9) (lv := [(0, .ref (ad 4 l0 0)), (1, .int (iI l1)), (2, .int (iI l2)), (3, .long (lI l3)), (5, .int (iI l5))]) (by decide) (Nat.le_of_ble_eq_true rfl) rfl (fun A p e s m below meth c ls X hZ hS hl => ?_)
  obtain ⟨hx, hb, hr, hml, hown, hts, hlk, hK, hA, hL, hX⟩ := id X
  replace hf : (if 0 ≤ l0 ∧ l0 < K.2 4 then if r32 (F 4 l0 10) then (if (F 4 l0 10) < 800 then if 0 ≤ (F 4 l0 10) ∧ (F 4 l0 10) < 800 then some (0, (zup3 F 4 l0 10 ((F 4 l0 10) + 1)), (zup4 (zup4 (zup4 (zup4 (zup4 B 4 l0 360 (F 4 l0 10) l1) 4 l0 361 (F 4 l0 10) l2) 4 l0 9 (F 4 l0 10) l3) 4 l0 364 (F 4 l0 10) (zdv l5 3)) 4 l0 365 (F 4 l0 10) (2 - (zrm l5 3)))) else none else some (0, (zup3 F 4 l0 11 1), B)) else none else none) = some (r, F9, B9) := hf
  refine lv_aload_n hx hb (D_42 W_prog_6_method_13_code_0 0 rfl rfl) rfl (lv_at hl 0 rfl) ?_
  obtain ⟨g1, hf⟩ := gif hf
  refine zget (ci := 4) (C := RX4) (T := TX4) (v := .int (iI (F 4 l0 10))) (k := 10) hx hb hts inW_4 hown hK hZ g1.1 g1.2 rfl (by decide) k_4_148 rfl (D_180 W_prog_6_method_13_code_0 1 rfl rfl rfl) ?_
  refine lv_sipush (v := iI 800) hx hb (D_17 W_prog_6_method_13_code_0 4 rfl rfl rfl) (by decide) ?_
  obtain ⟨g2, hf⟩ := gif hf
  refine zlt (tgt := 16) hx hb g2 (by decide) (D_161 W_prog_6_method_13_code_0 7 rfl rfl rfl) (by decide) (fun h3 => ?_) (fun h3 => ?_)
  · replace hf := gpos hf h3
    refine lv_aload_n hx hb (D_42 W_prog_6_method_13_code_0 16 rfl rfl) rfl (lv_at hl 0 rfl) ?_
    refine zget (ci := 4) (C := RX4) (T := TX4) (v := .int (iI (F 4 l0 10))) (k := 10) hx hb hts inW_4 hown hK hZ g1.1 g1.2 rfl (by decide) k_4_148 rfl (D_180 W_prog_6_method_13_code_0 17 rfl rfl rfl) ?_
    refine lv_istore (lv' := [(6, .int (iI (F 4 l0 10))), (0, .ref (ad 4 l0 0)), (1, .int (iI l1)), (2, .int (iI l2)), (3, .long (lI l3)), (5, .int (iI l5))]) hx hb (D_54 W_prog_6_method_13_code_0 20 rfl rfl) hl (by decide) rfl (fun ls hl => ?_)
    refine lv_aload_n hx hb (D_42 W_prog_6_method_13_code_0 22 rfl rfl) rfl (lv_at hl 1 rfl) ?_
    refine zget (ci := 4) (C := RX4) (T := TX4) (v := .ref (ad 4 l0 (8 + 1))) (k := 8) hx hb hts inW_4 hown hK hZ g1.1 g1.2 rfl (by decide) k_4_142 rfl (D_180 W_prog_6_method_13_code_0 23 rfl rfl rfl) ?_
    refine lv_iconst (v := iI 0) hx hb (D_3 W_prog_6_method_13_code_0 26 rfl rfl) rfl ?_
    refine zaldQ (t := 0) (ci := 4) (k := 8) hx hb hK rfl hZ g1.1 g1.2 rfl (Nat.le_of_ble_eq_true rfl) (by decide) (by decide) (D_50 W_prog_6_method_13_code_0 27 rfl rfl) ?_
    refine W.eq (g2 := F0 m 28 ls [.ref (ad 4 l0 (360 + 1))]) rfl ?_
    refine lv_iload hx hb (D_21 W_prog_6_method_13_code_0 28 rfl rfl) (lv_at hl 0 rfl) ?_
    refine lv_iload_n hx hb (D_27 W_prog_6_method_13_code_0 30 rfl rfl) rfl (lv_at hl 2 rfl) ?_
    obtain ⟨g4, hf⟩ := gif hf
    refine zast (ci := 4) (k := 360) hx hb hK rfl hZ hS g1.1 g1.2 rfl (Nat.le_of_ble_eq_true rfl) g4.1 g4.2 (D_79 W_prog_6_method_13_code_0 31 rfl rfl) (fun H5 locs5 hZ5 hS5 => ?_)
    refine lv_aload_n hx hb (D_42 W_prog_6_method_13_code_32 0 rfl rfl) rfl (lv_at hl 1 rfl) ?_
    refine zget (ci := 4) (C := RX4) (T := TX4) (v := .ref (ad 4 l0 (8 + 1))) (k := 8) hx hb hts inW_4 hown hK hZ5 g1.1 g1.2 rfl (by decide) k_4_142 rfl (D_180 W_prog_6_method_13_code_32 1 rfl rfl rfl) ?_
    refine lv_iconst (v := iI 1) hx hb (D_4 W_prog_6_method_13_code_32 4 rfl rfl) rfl ?_
    refine zaldQ (t := 0) (ci := 4) (k := 8) hx hb hK rfl hZ5 g1.1 g1.2 rfl (Nat.le_of_ble_eq_true rfl) (by decide) (by decide) (D_50 W_prog_6_method_13_code_32 5 rfl rfl) ?_
    refine W.eq (g2 := F0 m 38 ls [.ref (ad 4 l0 (361 + 1))]) rfl ?_
    refine lv_iload hx hb (D_21 W_prog_6_method_13_code_32 6 rfl rfl) (lv_at hl 0 rfl) ?_
    refine lv_iload_n hx hb (D_28 W_prog_6_method_13_code_32 8 rfl rfl) rfl (lv_at hl 3 rfl) ?_
    refine zast (ci := 4) (k := 361) hx hb hK rfl hZ5 hS5 g1.1 g1.2 rfl (Nat.le_of_ble_eq_true rfl) g4.1 g4.2 (D_79 W_prog_6_method_13_code_32 9 rfl rfl) (fun H6 locs6 hZ6 hS6 => ?_)
    refine lv_aload_n hx hb (D_42 W_prog_6_method_13_code_32 10 rfl rfl) rfl (lv_at hl 1 rfl) ?_
    refine zget (ci := 4) (C := RX4) (T := TX4) (v := .ref (ad 4 l0 (9 + 1))) (k := 9) hx hb hts inW_4 hown hK hZ6 g1.1 g1.2 rfl (by decide) k_4_145 rfl (D_180 W_prog_6_method_13_code_32 11 rfl rfl rfl) ?_
    refine lv_iload hx hb (D_21 W_prog_6_method_13_code_32 14 rfl rfl) (lv_at hl 0 rfl) ?_
    refine lv_lload_n hx hb (D_33 W_prog_6_method_13_code_32 16 rfl rfl) rfl (lv_at hl 4 rfl) ?_
    refine zlast (ci := 4) (k := 9) hx hb hK rfl hZ6 hS6 g1.1 g1.2 rfl (Nat.le_of_ble_eq_true rfl) g4.1 g4.2 (D_80 W_prog_6_method_13_code_32 17 rfl rfl) (fun H7 locs7 hZ7 hS7 => ?_)
    refine lv_aload_n hx hb (D_42 W_prog_6_method_13_code_32 18 rfl rfl) rfl (lv_at hl 1 rfl) ?_
    refine zget (ci := 4) (C := RX4) (T := TX4) (v := .ref (ad 4 l0 (8 + 1))) (k := 8) hx hb hts inW_4 hown hK hZ7 g1.1 g1.2 rfl (by decide) k_4_142 rfl (D_180 W_prog_6_method_13_code_32 19 rfl rfl rfl) ?_
    refine lv_iconst (v := iI 4) hx hb (D_7 W_prog_6_method_13_code_32 22 rfl rfl) rfl ?_
    refine zaldQ (t := 0) (ci := 4) (k := 8) hx hb hK rfl hZ7 g1.1 g1.2 rfl (Nat.le_of_ble_eq_true rfl) (by decide) (by decide) (D_50 W_prog_6_method_13_code_32 23 rfl rfl) ?_
    refine W.eq (g2 := F0 m 56 ls [.ref (ad 4 l0 (364 + 1))]) rfl ?_
    refine lv_iload hx hb (D_21 W_prog_6_method_13_code_32 24 rfl rfl) (lv_at hl 0 rfl) ?_
    refine lv_iload hx hb (D_21 W_prog_6_method_13_code_32 26 rfl rfl) (lv_at hl 5 rfl) ?_
    refine lv_iconst (v := iI 3) hx hb (D_6 W_prog_6_method_13_code_32 28 rfl rfl) rfl ?_
    refine zdv_r hx hb (by decide) (D_108 W_prog_6_method_13_code_32 29 rfl rfl) ?_
    refine zast (ci := 4) (k := 364) hx hb hK rfl hZ7 hS7 g1.1 g1.2 rfl (Nat.le_of_ble_eq_true rfl) g4.1 g4.2 (D_79 W_prog_6_method_13_code_32 30 rfl rfl) (fun H8 locs8 hZ8 hS8 => ?_)
    refine lv_aload_n hx hb (D_42 W_prog_6_method_13_code_32 31 rfl rfl) rfl (lv_at hl 1 rfl) ?_
    refine zget (ci := 4) (C := RX4) (T := TX4) (v := .ref (ad 4 l0 (8 + 1))) (k := 8) hx hb hts inW_4 hown hK hZ8 g1.1 g1.2 rfl (by decide) k_4_142 rfl (D_180 W_prog_6_method_13_code_64 0 rfl rfl rfl) ?_
    refine lv_iconst (v := iI 5) hx hb (D_8 W_prog_6_method_13_code_64 3 rfl rfl) rfl ?_
    refine zaldQ (t := 0) (ci := 4) (k := 8) hx hb hK rfl hZ8 g1.1 g1.2 rfl (Nat.le_of_ble_eq_true rfl) (by decide) (by decide) (D_50 W_prog_6_method_13_code_64 4 rfl rfl) ?_
    refine W.eq (g2 := F0 m 69 ls [.ref (ad 4 l0 (365 + 1))]) rfl ?_
    refine lv_iload hx hb (D_21 W_prog_6_method_13_code_64 5 rfl rfl) (lv_at hl 0 rfl) ?_
    refine lv_iconst (v := iI 2) hx hb (D_5 W_prog_6_method_13_code_64 7 rfl rfl) rfl ?_
    refine lv_iload hx hb (D_21 W_prog_6_method_13_code_64 8 rfl rfl) (lv_at hl 5 rfl) ?_
    refine lv_iconst (v := iI 3) hx hb (D_6 W_prog_6_method_13_code_64 10 rfl rfl) rfl ?_
    refine zrm_r hx hb (by decide) (D_112 W_prog_6_method_13_code_64 11 rfl rfl) ?_
    refine zsub hx hb (D_100 W_prog_6_method_13_code_64 12 rfl rfl) ?_
    refine zast (ci := 4) (k := 365) hx hb hK rfl hZ8 hS8 g1.1 g1.2 rfl (Nat.le_of_ble_eq_true rfl) g4.1 g4.2 (D_79 W_prog_6_method_13_code_64 13 rfl rfl) (fun H9 locs9 hZ9 hS9 => ?_)
    refine lv_aload_n hx hb (D_42 W_prog_6_method_13_code_64 14 rfl rfl) rfl (lv_at hl 1 rfl) ?_
    refine lv_dup hx hb (D_89 W_prog_6_method_13_code_64 15 rfl rfl) rfl ?_
    refine zget (ci := 4) (C := RX4) (T := TX4) (v := .int (iI (F 4 l0 10))) (k := 10) hx hb hts inW_4 hown hK hZ9 g1.1 g1.2 rfl (by decide) k_4_148 rfl (D_180 W_prog_6_method_13_code_64 16 rfl rfl rfl) ?_
    refine lv_iconst (v := iI 1) hx hb (D_4 W_prog_6_method_13_code_64 19 rfl rfl) rfl ?_
    refine zadd hx hb (D_96 W_prog_6_method_13_code_64 20 rfl rfl) ?_
    refine zput (ci := 4) (C := RX4) (T := TX4) (k := 10) (v := ((F 4 l0 10) + 1)) (w := .int (iI ((F 4 l0 10) + 1))) hx hb hts inW_4 tyX4 tyX4_ok nmX4 hown hK hZ9 hS9 g1.1 g1.2 rfl (by decide) k_4_148 rfl (fun G h => congrArg (fun q => Value.int (iI q)) h) rfl rfl (zno (by decide)) (D_181 W_prog_6_method_13_code_64 21 rfl rfl rfl) (fun H10 locs10 hZ10 hS10 => ?_)
    cases hf
    exact W.vret hx hb hr (fun t ht hW => ⟨⟨(), rfl, trivial, by rw [ht]; exact hZ10, va_K.moved hW.alike hK⟩, hS10.F ht⟩) hS10.2.2 (D_177 W_prog_6_method_13_code_64 24 rfl rfl) hlk
  · replace hf := gneg hf h3
    refine lv_aload_n hx hb (D_42 W_prog_6_method_13_code_0 10 rfl rfl) rfl (lv_at hl 0 rfl) ?_
    refine lv_iconst (v := iI 1) hx hb (D_4 W_prog_6_method_13_code_0 11 rfl rfl) rfl ?_
    refine zput (ci := 4) (C := RX4) (T := TX4) (k := 11) (v := 1) (w := .int (iI 1)) hx hb hts inW_4 tyX4 tyX4_ok nmX4 hown hK hZ hS g1.1 g1.2 rfl (by decide) k_4_151 rfl (fun G h => congrArg (fun q => Value.int (iI q)) h) rfl rfl (zno (by decide)) (D_181 W_prog_6_method_13_code_0 12 rfl rfl rfl) (fun H11 locs11 hZ11 hS11 => ?_)
    cases hf
    exact W.vret hx hb hr (fun t ht hW => ⟨⟨(), rfl, trivial, by rw [ht]; exact hZ11, va_K.moved hW.alike hK⟩, hS11.F ht⟩) hS11.2.2 (D_177 W_prog_6_method_13_code_0 15 rfl rfl) hlk

abbrev Q_Event_isRest (K : zK) (D : va_G) (ca : Nat → ClassId) (ad : Nat → Int → Nat → Nat) (L : List Nat) (r : Int) (F : zF) (B : zB) (A : Nat → Prop) : Array Value → State → Outcome → State → Prop := va_Qi (S := Unit) (fun p _ => p = iI r) (fun _ => zPo D ca ad lnC K.2 L F B A) A
def f_Event_isRest_12 (K : zK) (s0 : Int) (F : zF) (B : zB) : zO := if (s0 = 0 ∨ s0 = 1) then some (s0, F, B) else none
set_option maxHeartbeats 4000000 in
set_option maxRecDepth 100000 in
theorem b_Event_isRest_12 {D : va_G} {ca : Nat → ClassId} {ad : Nat → Int → Nat → Nat} {L : List Nat} {aS vS : Nat → Nat} {A : Nat → Prop} {p : Program} {l : Launch} {e : Env} {s : State} {m : MethodId} {args : Array Value} {below : List Frame} {meth : Method} {c : Code} {K : zK} {r : Int} {F9 : zF} {B9 : zB} (X : zX D ca L aS vS A p s m args meth c prog_3_method_2_code 1 (Option.some Jvm.ClassFile.FieldType.boolean) "StaveHouse$Event") {s0 : Int} {F : zF} {B : zB} {H : Heap} {locs : List Loc} {ls : Array Slot} (hf : f_Event_isRest_12 K s0 F B = some (r, F9, B9)) (hZ : zH D ca ad lnC K.2 L F B A H) (hS : va_S A s.heap H locs) (hl : lv_has ls 1 []) : W p l e ({ frames := 0, cells := 0, slots := 0, locals := 0 } : Room) s m args below meth c H locs 0 0 (MQ below (Q_Event_isRest K D ca ad L r F9 B9 A) args s 0 0 A) (F0 m 12 ls [.int (iI s0)]) := by
  obtain ⟨hx, hb, hr, hml, hown, hts, hlk, hK, hA, hL, hX⟩ := id X
  replace hf : (if (s0 = 0 ∨ s0 = 1) then some (s0, F, B) else none) = some (r, F9, B9) := hf
  obtain ⟨g4, hf⟩ := gif hf
  cases hf
  exact W.zret hx hb hr (zbool g4) (fun t ht hW => ⟨⟨_, (), rfl, rfl, by rw [ht]; exact hZ, va_K.moved hW.alike hK⟩, hS.F ht⟩) hS.2.2 (D_172 W_prog_3_method_2_code_0 12 rfl rfl) hlk

def f_Event_isRest (K : zK) (l0 : Int) (F : zF) (B : zB) : zO := if 0 ≤ l0 ∧ l0 < K.2 1 then if r32 (F 1 l0 10) then (if (F 1 l0 10) = 0 then f_Event_isRest_12 K 1 F B else f_Event_isRest_12 K 0 F B) else none else none
set_option maxHeartbeats 4000000 in
set_option maxRecDepth 100000 in
theorem c_Event_isRest {l : Launch} {D : va_G} {ca : Nat → ClassId} {ad : Nat → Int → Nat → Nat} {L : List Nat} {aS vS : Nat → Nat} {sz : Nat} {K : zK}  {l0 : Int} {F F9 : zF} {B B9 : zB} {r : Int} (hf : f_Event_isRest K l0 F B = some (r, F9, B9)) : Met l ({ cls := "StaveHouse$Event", name := "isRest", desc := "()Z" } : Jvm.MethodName) (Cond.code ({ cls := "StaveHouse$Event", name := "isRest", desc := "()Z" } : Jvm.MethodName) prog_3_method_2_code 1 (Option.some Jvm.ClassFile.FieldType.boolean) :: wAll) ({ frames := 0, cells := 0, slots := 0, locals := 0 } : Room) (va_Pc [.ref (ad 1 l0 0)] (zPre D ca ad lnC K.2 L aS vS F B sz)) (Q_Event_isRest K D ca ad L r F9 B9 (zA L sz)) 0 0 (zA L sz) := by
  refine zMet (Qc := Q_Event_isRest K D ca ad L r F9 B9) (lv := [(0, .ref (ad 1 l0 0))]) (by decide) (Nat.le_of_ble_eq_true rfl) rfl (fun A p e s m below meth c ls X hZ hS hl => ?_)
  obtain ⟨hx, hb, hr, hml, hown, hts, hlk, hK, hA, hL, hX⟩ := id X
  replace hf : (if 0 ≤ l0 ∧ l0 < K.2 1 then if r32 (F 1 l0 10) then (if (F 1 l0 10) = 0 then f_Event_isRest_12 K 1 F B else f_Event_isRest_12 K 0 F B) else none else none) = some (r, F9, B9) := hf
  refine lv_aload_n hx hb (D_42 W_prog_3_method_2_code_0 0 rfl rfl) rfl (lv_at hl 0 rfl) ?_
  obtain ⟨g1, hf⟩ := gif hf
  refine zget (ci := 1) (C := RX1) (T := TX1) (v := .int (iI (F 1 l0 10))) (k := 10) hx hb hts inW_1 hown hK hZ g1.1 g1.2 rfl (by decide) k_2_48 rfl (D_180 W_prog_3_method_2_code_0 1 rfl rfl rfl) ?_
  obtain ⟨g2, hf⟩ := gif hf
  refine z0ne (tgt := 11) hx hb g2 (D_154 W_prog_3_method_2_code_0 4 rfl rfl rfl) (by decide) (fun h3 => ?_) (fun h3 => ?_)
  · replace hf := gneg hf h3
    refine lv_iconst (v := iI 0) hx hb (D_3 W_prog_3_method_2_code_0 11 rfl rfl) rfl ?_
    exact b_Event_isRest_12 X hf hZ hS (lv_sub hl [] rfl)
  · replace hf := gpos hf h3
    refine lv_iconst (v := iI 1) hx hb (D_4 W_prog_3_method_2_code_0 7 rfl rfl) rfl ?_
    refine lv_goto (tgt := 12) hx hb (D_167 W_prog_3_method_2_code_0 8 rfl rfl rfl) (by decide) ?_
    exact b_Event_isRest_12 X hf hZ hS (lv_sub hl [] rfl)

abbrev Q_S_beatCount (K : zK) (D : va_G) (ca : Nat → ClassId) (ad : Nat → Int → Nat → Nat) (L : List Nat) (r : Int) (F : zF) (B : zB) (A : Nat → Prop) : Array Value → State → Outcome → State → Prop := va_Qi (S := Unit) (fun p _ => p = iI r) (fun _ => zPo D ca ad lnC K.2 L F B A) A
def f_S_beatCount_24 (K : zK) (s0 : Int) (F : zF) (B : zB) : zO := some (s0, F, B)
set_option maxHeartbeats 4000000 in
set_option maxRecDepth 100000 in
theorem b_S_beatCount_24 {D : va_G} {ca : Nat → ClassId} {ad : Nat → Int → Nat → Nat} {L : List Nat} {aS vS : Nat → Nat} {A : Nat → Prop} {p : Program} {l : Launch} {e : Env} {s : State} {m : MethodId} {args : Array Value} {below : List Frame} {meth : Method} {c : Code} {K : zK} {r : Int} {F9 : zF} {B9 : zB} (X : zX D ca L aS vS A p s m args meth c prog_1_method_39_code 2 (Option.some Jvm.ClassFile.FieldType.int) "StaveHouse") {s0 : Int} {F : zF} {B : zB} {H : Heap} {locs : List Loc} {ls : Array Slot} (hf : f_S_beatCount_24 K s0 F B = some (r, F9, B9)) (hZ : zH D ca ad lnC K.2 L F B A H) (hS : va_S A s.heap H locs) (hl : lv_has ls 2 []) : W p l e ({ frames := 0, cells := 0, slots := 0, locals := 0 } : Room) s m args below meth c H locs 0 0 (MQ below (Q_S_beatCount K D ca ad L r F9 B9 A) args s 0 0 A) (F0 m 24 ls [.int (iI s0)]) := by
  obtain ⟨hx, hb, hr, hml, hown, hts, hlk, hK, hA, hL, hX⟩ := id X
  replace hf : (some (s0, F, B)) = some (r, F9, B9) := hf
  cases hf
  exact W.iret hx hb hr (fun t ht hW => ⟨⟨_, (), rfl, rfl, by rw [ht]; exact hZ, va_K.moved hW.alike hK⟩, hS.F ht⟩) hS.2.2 (D_172 W_prog_1_method_39_code_0 24 rfl rfl) hlk

def f_S_beatCount_14 (K : zK) (l1 : Int) (F : zF) (B : zB) : zO := if r32 l1 then (if 4 < l1 then f_S_beatCount_24 K 2 F B else f_S_beatCount_24 K 1 F B) else none
set_option maxHeartbeats 4000000 in
set_option maxRecDepth 100000 in
theorem b_S_beatCount_14 {D : va_G} {ca : Nat → ClassId} {ad : Nat → Int → Nat → Nat} {L : List Nat} {aS vS : Nat → Nat} {A : Nat → Prop} {p : Program} {l : Launch} {e : Env} {s : State} {m : MethodId} {args : Array Value} {below : List Frame} {meth : Method} {c : Code} {K : zK} {r : Int} {F9 : zF} {B9 : zB} (X : zX D ca L aS vS A p s m args meth c prog_1_method_39_code 2 (Option.some Jvm.ClassFile.FieldType.int) "StaveHouse") {l1 : Int} {F : zF} {B : zB} {H : Heap} {locs : List Loc} {ls : Array Slot} (hf : f_S_beatCount_14 K l1 F B = some (r, F9, B9)) (hZ : zH D ca ad lnC K.2 L F B A H) (hS : va_S A s.heap H locs) (hl : lv_has ls 2 [(1, .int (iI l1))]) : W p l e ({ frames := 0, cells := 0, slots := 0, locals := 0 } : Room) s m args below meth c H locs 0 0 (MQ below (Q_S_beatCount K D ca ad L r F9 B9 A) args s 0 0 A) (F0 m 14 ls []) := by
  obtain ⟨hx, hb, hr, hml, hown, hts, hlk, hK, hA, hL, hX⟩ := id X
  replace hf : (if r32 l1 then (if 4 < l1 then f_S_beatCount_24 K 2 F B else f_S_beatCount_24 K 1 F B) else none) = some (r, F9, B9) := hf
  refine lv_iload_n hx hb (D_27 W_prog_1_method_39_code_0 14 rfl rfl) rfl (lv_at hl 0 rfl) ?_
  refine lv_iconst (v := iI 4) hx hb (D_7 W_prog_1_method_39_code_0 15 rfl rfl) rfl ?_
  obtain ⟨g5, hf⟩ := gif hf
  refine zgt (tgt := 23) hx hb g5 (by decide) (D_163 W_prog_1_method_39_code_0 16 rfl rfl rfl) (by decide) (fun h6 => ?_) (fun h6 => ?_)
  · replace hf := gpos hf h6
    refine lv_iconst (v := iI 2) hx hb (D_5 W_prog_1_method_39_code_0 23 rfl rfl) rfl ?_
    exact b_S_beatCount_24 X hf hZ hS (lv_sub hl [] rfl)
  · replace hf := gneg hf h6
    refine lv_iconst (v := iI 1) hx hb (D_4 W_prog_1_method_39_code_0 19 rfl rfl) rfl ?_
    refine lv_goto (tgt := 24) hx hb (D_167 W_prog_1_method_39_code_0 20 rfl rfl rfl) (by decide) ?_
    exact b_S_beatCount_24 X hf hZ hS (lv_sub hl [] rfl)

def f_S_beatCount (K : zK) (l0 : Int) (l1 : Int) (F : zF) (B : zB) : zO := if r32 l1 then (if l1 < 8 then f_S_beatCount_14 K l1 F B else if r32 (zrm l0 3) then (if (zrm l0 3) = 0 then some (3, F, B) else f_S_beatCount_14 K l1 F B) else none) else none
set_option maxHeartbeats 4000000 in
set_option maxRecDepth 100000 in
theorem c_S_beatCount {l : Launch} {D : va_G} {ca : Nat → ClassId} {ad : Nat → Int → Nat → Nat} {L : List Nat} {aS vS : Nat → Nat} {sz : Nat} {K : zK}  {l0 : Int} {l1 : Int} {F F9 : zF} {B B9 : zB} {r : Int} (hf : f_S_beatCount K l0 l1 F B = some (r, F9, B9)) : Met l ({ cls := "StaveHouse", name := "beatCount", desc := "(II)I" } : Jvm.MethodName) (Cond.code ({ cls := "StaveHouse", name := "beatCount", desc := "(II)I" } : Jvm.MethodName) prog_1_method_39_code 2 (Option.some Jvm.ClassFile.FieldType.int) :: wAll) ({ frames := 0, cells := 0, slots := 0, locals := 0 } : Room) (va_Pc [.int (iI l0), .int (iI l1)] (zPre D ca ad lnC K.2 L aS vS F B sz)) (Q_S_beatCount K D ca ad L r F9 B9 (zA L sz)) 0 0 (zA L sz) := by
  refine zMet (Qc := Q_S_beatCount K D ca ad L r F9 B9) (lv := [(0, .int (iI l0)), (1, .int (iI l1))]) (by decide) (Nat.le_of_ble_eq_true rfl) rfl (fun A p e s m below meth c ls X hZ hS hl => ?_)
  obtain ⟨hx, hb, hr, hml, hown, hts, hlk, hK, hA, hL, hX⟩ := id X
  replace hf : (if r32 l1 then (if l1 < 8 then f_S_beatCount_14 K l1 F B else if r32 (zrm l0 3) then (if (zrm l0 3) = 0 then some (3, F, B) else f_S_beatCount_14 K l1 F B) else none) else none) = some (r, F9, B9) := hf
  refine lv_iload_n hx hb (D_27 W_prog_1_method_39_code_0 0 rfl rfl) rfl (lv_at hl 1 rfl) ?_
  refine lv_bipush (v := iI 8) hx hb (D_16 W_prog_1_method_39_code_0 1 rfl rfl rfl) (by decide) ?_
  obtain ⟨g1, hf⟩ := gif hf
  refine zlt (tgt := 14) hx hb g1 (by decide) (D_161 W_prog_1_method_39_code_0 3 rfl rfl rfl) (by decide) (fun h2 => ?_) (fun h2 => ?_)
  · replace hf := gpos hf h2
    exact b_S_beatCount_14 X hf hZ hS (lv_sub hl [1] rfl)
  · replace hf := gneg hf h2
    refine lv_iload_n hx hb (D_26 W_prog_1_method_39_code_0 6 rfl rfl) rfl (lv_at hl 0 rfl) ?_
    refine lv_iconst (v := iI 3) hx hb (D_6 W_prog_1_method_39_code_0 7 rfl rfl) rfl ?_
    refine zrm_r hx hb (by decide) (D_112 W_prog_1_method_39_code_0 8 rfl rfl) ?_
    obtain ⟨g3, hf⟩ := gif hf
    refine z0ne (tgt := 14) hx hb g3 (D_154 W_prog_1_method_39_code_0 9 rfl rfl rfl) (by decide) (fun h4 => ?_) (fun h4 => ?_)
    · replace hf := gneg hf h4
      exact b_S_beatCount_14 X hf hZ hS (lv_sub hl [1] rfl)
    · replace hf := gpos hf h4
      refine lv_iconst (v := iI 3) hx hb (D_6 W_prog_1_method_39_code_0 12 rfl rfl) rfl ?_
      cases hf
      exact W.iret hx hb hr (fun t ht hW => ⟨⟨_, (), rfl, rfl, by rw [ht]; exact hZ, va_K.moved hW.alike hK⟩, hS.F ht⟩) hS.2.2 (D_172 W_prog_1_method_39_code_0 13 rfl rfl) hlk

abbrev Q_S_strength (K : zK) (D : va_G) (ca : Nat → ClassId) (ad : Nat → Int → Nat → Nat) (L : List Nat) (r : Int) (F : zF) (B : zB) (A : Nat → Prop) : Array Value → State → Outcome → State → Prop := va_Qi (S := Unit) (fun p _ => p = iI r) (fun _ => zPo D ca ad lnC K.2 L F B A) A
def f_S_strength_42 (K : zK) : Nat → Int → Int → Int → zF → zB → zO
  | 0, _, _, _, _, _ => none
  | n + 1, l4, l2, l3, F, B => if r32 l4 then (if 5 ≤ l4 then some (1, F, B) else if ¬ iI (zshr l2 l4) = 0 then if r32 (zrm l3 (zshr l2 l4)) then (if (zrm l3 (zshr l2 l4)) = 0 then some (6 - l4, F, B) else f_S_strength_42 K n (l4 + 1) l2 l3 F B) else none else none) else none
set_option maxHeartbeats 4000000 in
set_option maxRecDepth 100000 in
theorem b_S_strength_42 {D : va_G} {ca : Nat → ClassId} {ad : Nat → Int → Nat → Nat} {L : List Nat} {aS vS : Nat → Nat} {A : Nat → Prop} {p : Program} {l : Launch} {e : Env} {s : State} {m : MethodId} {args : Array Value} {below : List Frame} {meth : Method} {c : Code} {K : zK} {r : Int} {F9 : zF} {B9 : zB} (X : zX D ca L aS vS A p s m args meth c prog_1_method_43_code 5 (Option.some Jvm.ClassFile.FieldType.int) "StaveHouse") : ∀ {n : Nat} {l4 : Int} {l2 : Int} {l3 : Int} {F : zF} {B : zB} {H : Heap} {locs : List Loc} {ls : Array Slot}, f_S_strength_42 K n l4 l2 l3 F B = some (r, F9, B9) → zH D ca ad lnC K.2 L F B A H → va_S A s.heap H locs → lv_has ls 5 [(4, .int (iI l4)), (2, .int (iI l2)), (3, .int (iI l3))] → W p l e ({ frames := 0, cells := 0, slots := 0, locals := 0 } : Room) s m args below meth c H locs 0 0 (MQ below (Q_S_strength K D ca ad L r F9 B9 A) args s 0 0 A) (F0 m 42 ls []) := by
  obtain ⟨hx, hb, hr, hml, hown, hts, hlk, hK, hA, hL, hX⟩ := id X
  intro n
  induction n with
  | zero =>
    intros
    rename_i hf _ _ _
    cases hf
  | succ n ih =>
    intro l4 l2 l3 F B H locs ls hf hZ hS hl
    replace hf : (if r32 l4 then (if 5 ≤ l4 then some (1, F, B) else if ¬ iI (zshr l2 l4) = 0 then if r32 (zrm l3 (zshr l2 l4)) then (if (zrm l3 (zshr l2 l4)) = 0 then some (6 - l4, F, B) else f_S_strength_42 K n (l4 + 1) l2 l3 F B) else none else none) else none) = some (r, F9, B9) := hf
    refine lv_iload hx hb (D_21 W_prog_1_method_43_code_32 10 rfl rfl) (lv_at hl 0 rfl) ?_
    refine lv_iconst (v := iI 5) hx hb (D_8 W_prog_1_method_43_code_32 12 rfl rfl) rfl ?_
    obtain ⟨g13, hf⟩ := gif hf
    refine zge (tgt := 69) hx hb g13 (by decide) (D_162 W_prog_1_method_43_code_32 13 rfl rfl rfl) (by decide) (fun h14 => ?_) (fun h14 => ?_)
    · replace hf := gpos hf h14
      refine lv_iconst (v := iI 1) hx hb (D_4 W_prog_1_method_43_code_64 5 rfl rfl) rfl ?_
      cases hf
      exact W.iret hx hb hr (fun t ht hW => ⟨⟨_, (), rfl, rfl, by rw [ht]; exact hZ, va_K.moved hW.alike hK⟩, hS.F ht⟩) hS.2.2 (D_172 W_prog_1_method_43_code_64 6 rfl rfl) hlk
    · replace hf := gneg hf h14
      refine lv_iload_n hx hb (D_29 W_prog_1_method_43_code_32 16 rfl rfl) rfl (lv_at hl 2 rfl) ?_
      refine lv_iload_n hx hb (D_28 W_prog_1_method_43_code_32 17 rfl rfl) rfl (lv_at hl 1 rfl) ?_
      refine lv_iload hx hb (D_21 W_prog_1_method_43_code_32 18 rfl rfl) (lv_at hl 0 rfl) ?_
      refine zshr_r hx hb (D_122 W_prog_1_method_43_code_32 20 rfl rfl) ?_
      obtain ⟨g15, hf⟩ := gif hf
      refine zrm_r hx hb g15 (D_112 W_prog_1_method_43_code_32 21 rfl rfl) ?_
      obtain ⟨g16, hf⟩ := gif hf
      refine z0ne (tgt := 63) hx hb g16 (D_154 W_prog_1_method_43_code_32 22 rfl rfl rfl) (by decide) (fun h17 => ?_) (fun h17 => ?_)
      · replace hf := gneg hf h17
        refine lv_iinc (v := iI (l4 + 1)) (lv' := [(4, .int (iI (l4 + 1))), (2, .int (iI l2)), (3, .int (iI l3))]) hx hb d_1_43_63 hl (k := 0) rfl (iI_add _ 1) (by decide) rfl (fun ls hl => ?_)
        refine lv_goto (tgt := 42) hx hb (D_167 W_prog_1_method_43_code_64 2 rfl rfl rfl) (by decide) ?_
        exact ih hf hZ hS (lv_sub hl [0, 1, 2] rfl)
      · replace hf := gpos hf h17
        refine lv_bipush (v := iI 6) hx hb (D_16 W_prog_1_method_43_code_32 25 rfl rfl rfl) (by decide) ?_
        refine lv_iload hx hb (D_21 W_prog_1_method_43_code_32 27 rfl rfl) (lv_at hl 0 rfl) ?_
        refine zsub hx hb (D_100 W_prog_1_method_43_code_32 29 rfl rfl) ?_
        cases hf
        exact W.iret hx hb hr (fun t ht hW => ⟨⟨_, (), rfl, rfl, by rw [ht]; exact hZ, va_K.moved hW.alike hK⟩, hS.F ht⟩) hS.2.2 (D_172 W_prog_1_method_43_code_32 30 rfl rfl) hlk

def f_S_strength_30 (K : zK) (l1 : Int) (l2 : Int) (l3 : Int) (F : zF) (B : zB) : zO := if ¬ iI l1 = 0 then if r32 (zrm l3 l1) then (if (zrm l3 l1) = 0 then some (7, F, B) else f_S_strength_42 K K.1 0 l2 l3 F B) else none else none
set_option maxHeartbeats 4000000 in
set_option maxRecDepth 100000 in
theorem b_S_strength_30 {D : va_G} {ca : Nat → ClassId} {ad : Nat → Int → Nat → Nat} {L : List Nat} {aS vS : Nat → Nat} {A : Nat → Prop} {p : Program} {l : Launch} {e : Env} {s : State} {m : MethodId} {args : Array Value} {below : List Frame} {meth : Method} {c : Code} {K : zK} {r : Int} {F9 : zF} {B9 : zB} (X : zX D ca L aS vS A p s m args meth c prog_1_method_43_code 5 (Option.some Jvm.ClassFile.FieldType.int) "StaveHouse") {l1 : Int} {l2 : Int} {l3 : Int} {F : zF} {B : zB} {H : Heap} {locs : List Loc} {ls : Array Slot} (hf : f_S_strength_30 K l1 l2 l3 F B = some (r, F9, B9)) (hZ : zH D ca ad lnC K.2 L F B A H) (hS : va_S A s.heap H locs) (hl : lv_has ls 5 [(1, .int (iI l1)), (2, .int (iI l2)), (3, .int (iI l3))]) : W p l e ({ frames := 0, cells := 0, slots := 0, locals := 0 } : Room) s m args below meth c H locs 0 0 (MQ below (Q_S_strength K D ca ad L r F9 B9 A) args s 0 0 A) (F0 m 30 ls []) := by
  obtain ⟨hx, hb, hr, hml, hown, hts, hlk, hK, hA, hL, hX⟩ := id X
  replace hf : (if ¬ iI l1 = 0 then if r32 (zrm l3 l1) then (if (zrm l3 l1) = 0 then some (7, F, B) else f_S_strength_42 K K.1 0 l2 l3 F B) else none else none) = some (r, F9, B9) := hf
  refine lv_iload_n hx hb (D_29 W_prog_1_method_43_code_0 30 rfl rfl) rfl (lv_at hl 2 rfl) ?_
  refine lv_iload_n hx hb (D_27 W_prog_1_method_43_code_0 31 rfl rfl) rfl (lv_at hl 0 rfl) ?_
  obtain ⟨g10, hf⟩ := gif hf
  refine zrm_r hx hb g10 (D_112 W_prog_1_method_43_code_32 0 rfl rfl) ?_
  obtain ⟨g11, hf⟩ := gif hf
  refine z0ne (tgt := 39) hx hb g11 (D_154 W_prog_1_method_43_code_32 1 rfl rfl rfl) (by decide) (fun h12 => ?_) (fun h12 => ?_)
  · replace hf := gneg hf h12
    refine lv_iconst (v := iI 0) hx hb (D_3 W_prog_1_method_43_code_32 7 rfl rfl) rfl ?_
    refine lv_istore (lv' := [(4, .int (iI 0)), (1, .int (iI l1)), (2, .int (iI l2)), (3, .int (iI l3))]) hx hb (D_54 W_prog_1_method_43_code_32 8 rfl rfl) hl (by decide) rfl (fun ls hl => ?_)
    exact b_S_strength_42 X hf hZ hS (lv_sub hl [0, 2, 3] rfl)
  · replace hf := gpos hf h12
    refine lv_bipush (v := iI 7) hx hb (D_16 W_prog_1_method_43_code_32 4 rfl rfl rfl) (by decide) ?_
    cases hf
    exact W.iret hx hb hr (fun t ht hW => ⟨⟨_, (), rfl, rfl, by rw [ht]; exact hZ, va_K.moved hW.alike hK⟩, hS.F ht⟩) hS.2.2 (D_172 W_prog_1_method_43_code_32 6 rfl rfl) hlk

def f_S_strength_9 (K : zK)  (F : zF) (B : zB) : zO := some (9, F, B)
set_option maxHeartbeats 4000000 in
set_option maxRecDepth 100000 in
theorem b_S_strength_9 {D : va_G} {ca : Nat → ClassId} {ad : Nat → Int → Nat → Nat} {L : List Nat} {aS vS : Nat → Nat} {A : Nat → Prop} {p : Program} {l : Launch} {e : Env} {s : State} {m : MethodId} {args : Array Value} {below : List Frame} {meth : Method} {c : Code} {K : zK} {r : Int} {F9 : zF} {B9 : zB} (X : zX D ca L aS vS A p s m args meth c prog_1_method_43_code 5 (Option.some Jvm.ClassFile.FieldType.int) "StaveHouse")  {F : zF} {B : zB} {H : Heap} {locs : List Loc} {ls : Array Slot} (hf : f_S_strength_9 K  F B = some (r, F9, B9)) (hZ : zH D ca ad lnC K.2 L F B A H) (hS : va_S A s.heap H locs) (hl : lv_has ls 5 []) : W p l e ({ frames := 0, cells := 0, slots := 0, locals := 0 } : Room) s m args below meth c H locs 0 0 (MQ below (Q_S_strength K D ca ad L r F9 B9 A) args s 0 0 A) (F0 m 9 ls []) := by
  obtain ⟨hx, hb, hr, hml, hown, hts, hlk, hK, hA, hL, hX⟩ := id X
  replace hf : (some (9, F, B)) = some (r, F9, B9) := hf
  refine lv_bipush (v := iI 9) hx hb (D_16 W_prog_1_method_43_code_0 9 rfl rfl rfl) (by decide) ?_
  cases hf
  exact W.iret hx hb hr (fun t ht hW => ⟨⟨_, (), rfl, rfl, by rw [ht]; exact hZ, va_K.moved hW.alike hK⟩, hS.F ht⟩) hS.2.2 (D_172 W_prog_1_method_43_code_0 11 rfl rfl) hlk

def f_S_strength (K : zK) (l0 : Int) (l1 : Int) (l2 : Int) (l3 : Int) (F : zF) (B : zB) : zO := if r32 l3 then (if l3 = 0 then f_S_strength_9 K F B else if r32 l0 then (if l3 = l0 then f_S_strength_9 K F B else if ¬ iI (2 * l2) = 0 then if r32 (zrm l0 (2 * l2)) then (if (zrm l0 (2 * l2)) = 0 then if r32 (2 * l3) then (if (2 * l3) = l0 then some (8, F, B) else f_S_strength_30 K l1 l2 l3 F B) else none else f_S_strength_30 K l1 l2 l3 F B) else none else none) else none) else none
set_option maxHeartbeats 4000000 in
set_option maxRecDepth 100000 in
theorem c_S_strength {l : Launch} {D : va_G} {ca : Nat → ClassId} {ad : Nat → Int → Nat → Nat} {L : List Nat} {aS vS : Nat → Nat} {sz : Nat} {K : zK}  {l0 : Int} {l1 : Int} {l2 : Int} {l3 : Int} {F F9 : zF} {B B9 : zB} {r : Int} (hf : f_S_strength K l0 l1 l2 l3 F B = some (r, F9, B9)) : Met l ({ cls := "StaveHouse", name := "strength", desc := "(IIII)I" } : Jvm.MethodName) (Cond.code ({ cls := "StaveHouse", name := "strength", desc := "(IIII)I" } : Jvm.MethodName) prog_1_method_43_code 5 (Option.some Jvm.ClassFile.FieldType.int) :: wAll) ({ frames := 0, cells := 0, slots := 0, locals := 0 } : Room) (va_Pc [.int (iI l0), .int (iI l1), .int (iI l2), .int (iI l3)] (zPre D ca ad lnC K.2 L aS vS F B sz)) (Q_S_strength K D ca ad L r F9 B9 (zA L sz)) 0 0 (zA L sz) := by
  refine zMet (Qc := Q_S_strength K D ca ad L r F9 B9) (lv := [(0, .int (iI l0)), (1, .int (iI l1)), (2, .int (iI l2)), (3, .int (iI l3))]) (by decide) (Nat.le_of_ble_eq_true rfl) rfl (fun A p e s m below meth c ls X hZ hS hl => ?_)
  obtain ⟨hx, hb, hr, hml, hown, hts, hlk, hK, hA, hL, hX⟩ := id X
  replace hf : (if r32 l3 then (if l3 = 0 then f_S_strength_9 K F B else if r32 l0 then (if l3 = l0 then f_S_strength_9 K F B else if ¬ iI (2 * l2) = 0 then if r32 (zrm l0 (2 * l2)) then (if (zrm l0 (2 * l2)) = 0 then if r32 (2 * l3) then (if (2 * l3) = l0 then some (8, F, B) else f_S_strength_30 K l1 l2 l3 F B) else none else f_S_strength_30 K l1 l2 l3 F B) else none else none) else none) else none) = some (r, F9, B9) := hf
  refine lv_iload_n hx hb (D_29 W_prog_1_method_43_code_0 0 rfl rfl) rfl (lv_at hl 3 rfl) ?_
  obtain ⟨g1, hf⟩ := gif hf
  refine z0eq (tgt := 9) hx hb g1 (D_153 W_prog_1_method_43_code_0 1 rfl rfl rfl) (by decide) (fun h2 => ?_) (fun h2 => ?_)
  · replace hf := gpos hf h2
    exact b_S_strength_9 X hf hZ hS (lv_sub hl [] rfl)
  · replace hf := gneg hf h2
    refine lv_iload_n hx hb (D_29 W_prog_1_method_43_code_0 4 rfl rfl) rfl (lv_at hl 3 rfl) ?_
    refine lv_iload_n hx hb (D_26 W_prog_1_method_43_code_0 5 rfl rfl) rfl (lv_at hl 0 rfl) ?_
    obtain ⟨g3, hf⟩ := gif hf
    refine zne (tgt := 12) hx hb g1 g3 (D_160 W_prog_1_method_43_code_0 6 rfl rfl rfl) (by decide) (fun h4 => ?_) (fun h4 => ?_)
    · replace hf := gneg hf h4
      refine lv_iload_n hx hb (D_26 W_prog_1_method_43_code_0 12 rfl rfl) rfl (lv_at hl 0 rfl) ?_
      refine lv_iconst (v := iI 2) hx hb (D_5 W_prog_1_method_43_code_0 13 rfl rfl) rfl ?_
      refine lv_iload_n hx hb (D_28 W_prog_1_method_43_code_0 14 rfl rfl) rfl (lv_at hl 2 rfl) ?_
      refine zmul hx hb (D_104 W_prog_1_method_43_code_0 15 rfl rfl) ?_
      obtain ⟨g5, hf⟩ := gif hf
      refine zrm_r hx hb g5 (D_112 W_prog_1_method_43_code_0 16 rfl rfl) ?_
      obtain ⟨g6, hf⟩ := gif hf
      refine z0ne (tgt := 30) hx hb g6 (D_154 W_prog_1_method_43_code_0 17 rfl rfl rfl) (by decide) (fun h7 => ?_) (fun h7 => ?_)
      · replace hf := gneg hf h7
        exact b_S_strength_30 X hf hZ hS (lv_sub hl [1, 2, 3] rfl)
      · replace hf := gpos hf h7
        refine lv_iconst (v := iI 2) hx hb (D_5 W_prog_1_method_43_code_0 20 rfl rfl) rfl ?_
        refine lv_iload_n hx hb (D_29 W_prog_1_method_43_code_0 21 rfl rfl) rfl (lv_at hl 3 rfl) ?_
        refine zmul hx hb (D_104 W_prog_1_method_43_code_0 22 rfl rfl) ?_
        refine lv_iload_n hx hb (D_26 W_prog_1_method_43_code_0 23 rfl rfl) rfl (lv_at hl 0 rfl) ?_
        obtain ⟨g8, hf⟩ := gif hf
        refine zne (tgt := 30) hx hb g8 g3 (D_160 W_prog_1_method_43_code_0 24 rfl rfl rfl) (by decide) (fun h9 => ?_) (fun h9 => ?_)
        · replace hf := gneg hf h9
          exact b_S_strength_30 X hf hZ hS (lv_sub hl [1, 2, 3] rfl)
        · replace hf := gpos hf h9
          refine lv_bipush (v := iI 8) hx hb (D_16 W_prog_1_method_43_code_0 27 rfl rfl rfl) (by decide) ?_
          cases hf
          exact W.iret hx hb hr (fun t ht hW => ⟨⟨_, (), rfl, rfl, by rw [ht]; exact hZ, va_K.moved hW.alike hK⟩, hS.F ht⟩) hS.2.2 (D_172 W_prog_1_method_43_code_0 29 rfl rfl) hlk
    · replace hf := gpos hf h4
      exact b_S_strength_9 X hf hZ hS (lv_sub hl [] rfl)

abbrev Q_S_strengthBetween (K : zK) (D : va_G) (ca : Nat → ClassId) (ad : Nat → Int → Nat → Nat) (L : List Nat) (r : Int) (F : zF) (B : zB) (A : Nat → Prop) : Array Value → State → Outcome → State → Prop := va_Qi (S := Unit) (fun p _ => p = iI r) (fun _ => zPo D ca ad lnC K.2 L F B A) A
def f_S_strengthBetween_44 (K : zK) : Nat → Int → Int → Int → Int → zF → zB → zO
  | 0, _, _, _, _, _, _ => none
  | n + 1, l5, l2, l3, l4, F, B => if r32 l5 then (if 5 ≤ l5 then some (1, F, B) else if ¬ iI (zshr l2 l5) = 0 then if r32 ((zdv (l4 - 1) (zshr l2 l5)) * (zshr l2 l5)) then if r32 l3 then (if ((zdv (l4 - 1) (zshr l2 l5)) * (zshr l2 l5)) ≤ l3 then f_S_strengthBetween_44 K n (l5 + 1) l2 l3 l4 F B else some (6 - l5, F, B)) else none else none else none) else none
set_option maxHeartbeats 4000000 in
set_option maxRecDepth 100000 in
theorem b_S_strengthBetween_44 {D : va_G} {ca : Nat → ClassId} {ad : Nat → Int → Nat → Nat} {L : List Nat} {aS vS : Nat → Nat} {A : Nat → Prop} {p : Program} {l : Launch} {e : Env} {s : State} {m : MethodId} {args : Array Value} {below : List Frame} {meth : Method} {c : Code} {K : zK} {r : Int} {F9 : zF} {B9 : zB} (X : zX D ca L aS vS A p s m args meth c prog_1_method_44_code 7 (Option.some Jvm.ClassFile.FieldType.int) "StaveHouse") : ∀ {n : Nat} {l5 : Int} {l2 : Int} {l3 : Int} {l4 : Int} {F : zF} {B : zB} {H : Heap} {locs : List Loc} {ls : Array Slot}, f_S_strengthBetween_44 K n l5 l2 l3 l4 F B = some (r, F9, B9) → zH D ca ad lnC K.2 L F B A H → va_S A s.heap H locs → lv_has ls 7 [(5, .int (iI l5)), (2, .int (iI l2)), (3, .int (iI l3)), (4, .int (iI l4))] → W p l e ({ frames := 0, cells := 0, slots := 0, locals := 0 } : Room) s m args below meth c H locs 0 0 (MQ below (Q_S_strengthBetween K D ca ad L r F9 B9 A) args s 0 0 A) (F0 m 44 ls []) := by
  obtain ⟨hx, hb, hr, hml, hown, hts, hlk, hK, hA, hL, hX⟩ := id X
  intro n
  induction n with
  | zero =>
    intros
    rename_i hf _ _ _
    cases hf
  | succ n ih =>
    intro l5 l2 l3 l4 F B H locs ls hf hZ hS hl
    replace hf : (if r32 l5 then (if 5 ≤ l5 then some (1, F, B) else if ¬ iI (zshr l2 l5) = 0 then if r32 ((zdv (l4 - 1) (zshr l2 l5)) * (zshr l2 l5)) then if r32 l3 then (if ((zdv (l4 - 1) (zshr l2 l5)) * (zshr l2 l5)) ≤ l3 then f_S_strengthBetween_44 K n (l5 + 1) l2 l3 l4 F B else some (6 - l5, F, B)) else none else none else none) else none) = some (r, F9, B9) := hf
    refine lv_iload hx hb (D_21 W_prog_1_method_44_code_32 12 rfl rfl) (lv_at hl 0 rfl) ?_
    refine lv_iconst (v := iI 5) hx hb (D_8 W_prog_1_method_44_code_32 14 rfl rfl) rfl ?_
    obtain ⟨g13, hf⟩ := gif hf
    refine zge (tgt := 82) hx hb g13 (by decide) (D_162 W_prog_1_method_44_code_32 15 rfl rfl rfl) (by decide) (fun h14 => ?_) (fun h14 => ?_)
    · replace hf := gpos hf h14
      refine lv_iconst (v := iI 1) hx hb (D_4 W_prog_1_method_44_code_64 18 rfl rfl) rfl ?_
      cases hf
      exact W.iret hx hb hr (fun t ht hW => ⟨⟨_, (), rfl, rfl, by rw [ht]; exact hZ, va_K.moved hW.alike hK⟩, hS.F ht⟩) hS.2.2 (D_172 W_prog_1_method_44_code_64 19 rfl rfl) hlk
    · replace hf := gneg hf h14
      refine lv_iload_n hx hb (D_28 W_prog_1_method_44_code_32 18 rfl rfl) rfl (lv_at hl 1 rfl) ?_
      refine lv_iload hx hb (D_21 W_prog_1_method_44_code_32 19 rfl rfl) (lv_at hl 0 rfl) ?_
      refine zshr_r hx hb (D_122 W_prog_1_method_44_code_32 21 rfl rfl) ?_
      refine lv_istore (lv' := [(6, .int (iI (zshr l2 l5))), (5, .int (iI l5)), (2, .int (iI l2)), (3, .int (iI l3)), (4, .int (iI l4))]) hx hb (D_54 W_prog_1_method_44_code_32 22 rfl rfl) hl (by decide) rfl (fun ls hl => ?_)
      refine lv_iload hx hb (D_21 W_prog_1_method_44_code_32 24 rfl rfl) (lv_at hl 4 rfl) ?_
      refine lv_iconst (v := iI 1) hx hb (D_4 W_prog_1_method_44_code_32 26 rfl rfl) rfl ?_
      refine zsub hx hb (D_100 W_prog_1_method_44_code_32 27 rfl rfl) ?_
      refine lv_iload hx hb (D_21 W_prog_1_method_44_code_32 28 rfl rfl) (lv_at hl 0 rfl) ?_
      obtain ⟨g15, hf⟩ := gif hf
      refine zdv_r hx hb g15 (D_108 W_prog_1_method_44_code_32 30 rfl rfl) ?_
      refine lv_iload hx hb (D_21 W_prog_1_method_44_code_32 31 rfl rfl) (lv_at hl 0 rfl) ?_
      refine zmul hx hb (D_104 W_prog_1_method_44_code_64 1 rfl rfl) ?_
      refine lv_iload_n hx hb (D_29 W_prog_1_method_44_code_64 2 rfl rfl) rfl (lv_at hl 3 rfl) ?_
      obtain ⟨g16, hf⟩ := gif hf
      obtain ⟨g17, hf⟩ := gif hf
      refine zle (tgt := 76) hx hb g16 g17 (D_164 W_prog_1_method_44_code_64 3 rfl rfl rfl) (by decide) (fun h18 => ?_) (fun h18 => ?_)
      · replace hf := gpos hf h18
        refine lv_iinc (v := iI (l5 + 1)) (lv' := [(5, .int (iI (l5 + 1))), (6, .int (iI (zshr l2 l5))), (2, .int (iI l2)), (3, .int (iI l3)), (4, .int (iI l4))]) hx hb d_1_44_76 hl (k := 1) rfl (iI_add _ 1) (by decide) rfl (fun ls hl => ?_)
        refine lv_goto (tgt := 44) hx hb (D_167 W_prog_1_method_44_code_64 15 rfl rfl rfl) (by decide) ?_
        exact ih hf hZ hS (lv_sub hl [0, 2, 3, 4] rfl)
      · replace hf := gneg hf h18
        refine lv_bipush (v := iI 6) hx hb (D_16 W_prog_1_method_44_code_64 6 rfl rfl rfl) (by decide) ?_
        refine lv_iload hx hb (D_21 W_prog_1_method_44_code_64 8 rfl rfl) (lv_at hl 1 rfl) ?_
        refine zsub hx hb (D_100 W_prog_1_method_44_code_64 10 rfl rfl) ?_
        cases hf
        exact W.iret hx hb hr (fun t ht hW => ⟨⟨_, (), rfl, rfl, by rw [ht]; exact hZ, va_K.moved hW.alike hK⟩, hS.F ht⟩) hS.2.2 (D_172 W_prog_1_method_44_code_64 11 rfl rfl) hlk

def f_S_strengthBetween_26 (K : zK) (l1 : Int) (l2 : Int) (l3 : Int) (l4 : Int) (F : zF) (B : zB) : zO := if ¬ iI l1 = 0 then if r32 ((zdv (l4 - 1) l1) * l1) then if r32 l3 then (if ((zdv (l4 - 1) l1) * l1) ≤ l3 then f_S_strengthBetween_44 K K.1 0 l2 l3 l4 F B else some (7, F, B)) else none else none else none
set_option maxHeartbeats 4000000 in
set_option maxRecDepth 100000 in
theorem b_S_strengthBetween_26 {D : va_G} {ca : Nat → ClassId} {ad : Nat → Int → Nat → Nat} {L : List Nat} {aS vS : Nat → Nat} {A : Nat → Prop} {p : Program} {l : Launch} {e : Env} {s : State} {m : MethodId} {args : Array Value} {below : List Frame} {meth : Method} {c : Code} {K : zK} {r : Int} {F9 : zF} {B9 : zB} (X : zX D ca L aS vS A p s m args meth c prog_1_method_44_code 7 (Option.some Jvm.ClassFile.FieldType.int) "StaveHouse") {l1 : Int} {l2 : Int} {l3 : Int} {l4 : Int} {F : zF} {B : zB} {H : Heap} {locs : List Loc} {ls : Array Slot} (hf : f_S_strengthBetween_26 K l1 l2 l3 l4 F B = some (r, F9, B9)) (hZ : zH D ca ad lnC K.2 L F B A H) (hS : va_S A s.heap H locs) (hl : lv_has ls 7 [(1, .int (iI l1)), (2, .int (iI l2)), (3, .int (iI l3)), (4, .int (iI l4))]) : W p l e ({ frames := 0, cells := 0, slots := 0, locals := 0 } : Room) s m args below meth c H locs 0 0 (MQ below (Q_S_strengthBetween K D ca ad L r F9 B9 A) args s 0 0 A) (F0 m 26 ls []) := by
  obtain ⟨hx, hb, hr, hml, hown, hts, hlk, hK, hA, hL, hX⟩ := id X
  replace hf : (if ¬ iI l1 = 0 then if r32 ((zdv (l4 - 1) l1) * l1) then if r32 l3 then (if ((zdv (l4 - 1) l1) * l1) ≤ l3 then f_S_strengthBetween_44 K K.1 0 l2 l3 l4 F B else some (7, F, B)) else none else none else none) = some (r, F9, B9) := hf
  refine lv_iload hx hb (D_21 W_prog_1_method_44_code_0 26 rfl rfl) (lv_at hl 3 rfl) ?_
  refine lv_iconst (v := iI 1) hx hb (D_4 W_prog_1_method_44_code_0 28 rfl rfl) rfl ?_
  refine zsub hx hb (D_100 W_prog_1_method_44_code_0 29 rfl rfl) ?_
  refine lv_iload_n hx hb (D_27 W_prog_1_method_44_code_0 30 rfl rfl) rfl (lv_at hl 0 rfl) ?_
  obtain ⟨g9, hf⟩ := gif hf
  refine zdv_r hx hb g9 (D_108 W_prog_1_method_44_code_0 31 rfl rfl) ?_
  refine lv_iload_n hx hb (D_27 W_prog_1_method_44_code_32 0 rfl rfl) rfl (lv_at hl 0 rfl) ?_
  refine zmul hx hb (D_104 W_prog_1_method_44_code_32 1 rfl rfl) ?_
  refine lv_iload_n hx hb (D_29 W_prog_1_method_44_code_32 2 rfl rfl) rfl (lv_at hl 2 rfl) ?_
  obtain ⟨g10, hf⟩ := gif hf
  obtain ⟨g11, hf⟩ := gif hf
  refine zle (tgt := 41) hx hb g10 g11 (D_164 W_prog_1_method_44_code_32 3 rfl rfl rfl) (by decide) (fun h12 => ?_) (fun h12 => ?_)
  · replace hf := gpos hf h12
    refine lv_iconst (v := iI 0) hx hb (D_3 W_prog_1_method_44_code_32 9 rfl rfl) rfl ?_
    refine lv_istore (lv' := [(5, .int (iI 0)), (1, .int (iI l1)), (2, .int (iI l2)), (3, .int (iI l3)), (4, .int (iI l4))]) hx hb (D_54 W_prog_1_method_44_code_32 10 rfl rfl) hl (by decide) rfl (fun ls hl => ?_)
    exact b_S_strengthBetween_44 X hf hZ hS (lv_sub hl [0, 2, 3, 4] rfl)
  · replace hf := gneg hf h12
    refine lv_bipush (v := iI 7) hx hb (D_16 W_prog_1_method_44_code_32 6 rfl rfl rfl) (by decide) ?_
    cases hf
    exact W.iret hx hb hr (fun t ht hW => ⟨⟨_, (), rfl, rfl, by rw [ht]; exact hZ, va_K.moved hW.alike hK⟩, hS.F ht⟩) hS.2.2 (D_172 W_prog_1_method_44_code_32 8 rfl rfl) hlk

def f_S_strengthBetween (K : zK) (l0 : Int) (l1 : Int) (l2 : Int) (l3 : Int) (l4 : Int) (F : zF) (B : zB) : zO := if ¬ iI (2 * l2) = 0 then if r32 (zrm l0 (2 * l2)) then (if (zrm l0 (2 * l2)) = 0 then if r32 (2 * l3) then if r32 l0 then (if l0 ≤ (2 * l3) then f_S_strengthBetween_26 K l1 l2 l3 l4 F B else if r32 (2 * l4) then (if (2 * l4) ≤ l0 then f_S_strengthBetween_26 K l1 l2 l3 l4 F B else some (8, F, B)) else none) else none else none else f_S_strengthBetween_26 K l1 l2 l3 l4 F B) else none else none
set_option maxHeartbeats 4000000 in
set_option maxRecDepth 100000 in
theorem c_S_strengthBetween {l : Launch} {D : va_G} {ca : Nat → ClassId} {ad : Nat → Int → Nat → Nat} {L : List Nat} {aS vS : Nat → Nat} {sz : Nat} {K : zK}  {l0 : Int} {l1 : Int} {l2 : Int} {l3 : Int} {l4 : Int} {F F9 : zF} {B B9 : zB} {r : Int} (hf : f_S_strengthBetween K l0 l1 l2 l3 l4 F B = some (r, F9, B9)) : Met l ({ cls := "StaveHouse", name := "strengthBetween", desc := "(IIIII)I" } : Jvm.MethodName) (Cond.code ({ cls := "StaveHouse", name := "strengthBetween", desc := "(IIIII)I" } : Jvm.MethodName) prog_1_method_44_code 7 (Option.some Jvm.ClassFile.FieldType.int) :: wAll) ({ frames := 0, cells := 0, slots := 0, locals := 0 } : Room) (va_Pc [.int (iI l0), .int (iI l1), .int (iI l2), .int (iI l3), .int (iI l4)] (zPre D ca ad lnC K.2 L aS vS F B sz)) (Q_S_strengthBetween K D ca ad L r F9 B9 (zA L sz)) 0 0 (zA L sz) := by
  refine zMet (Qc := Q_S_strengthBetween K D ca ad L r F9 B9) (lv := [(0, .int (iI l0)), (1, .int (iI l1)), (2, .int (iI l2)), (3, .int (iI l3)), (4, .int (iI l4))]) (by decide) (Nat.le_of_ble_eq_true rfl) rfl (fun A p e s m below meth c ls X hZ hS hl => ?_)
  obtain ⟨hx, hb, hr, hml, hown, hts, hlk, hK, hA, hL, hX⟩ := id X
  replace hf : (if ¬ iI (2 * l2) = 0 then if r32 (zrm l0 (2 * l2)) then (if (zrm l0 (2 * l2)) = 0 then if r32 (2 * l3) then if r32 l0 then (if l0 ≤ (2 * l3) then f_S_strengthBetween_26 K l1 l2 l3 l4 F B else if r32 (2 * l4) then (if (2 * l4) ≤ l0 then f_S_strengthBetween_26 K l1 l2 l3 l4 F B else some (8, F, B)) else none) else none else none else f_S_strengthBetween_26 K l1 l2 l3 l4 F B) else none else none) = some (r, F9, B9) := hf
  refine lv_iload_n hx hb (D_26 W_prog_1_method_44_code_0 0 rfl rfl) rfl (lv_at hl 0 rfl) ?_
  refine lv_iconst (v := iI 2) hx hb (D_5 W_prog_1_method_44_code_0 1 rfl rfl) rfl ?_
  refine lv_iload_n hx hb (D_28 W_prog_1_method_44_code_0 2 rfl rfl) rfl (lv_at hl 2 rfl) ?_
  refine zmul hx hb (D_104 W_prog_1_method_44_code_0 3 rfl rfl) ?_
  obtain ⟨g1, hf⟩ := gif hf
  refine zrm_r hx hb g1 (D_112 W_prog_1_method_44_code_0 4 rfl rfl) ?_
  obtain ⟨g2, hf⟩ := gif hf
  refine z0ne (tgt := 26) hx hb g2 (D_154 W_prog_1_method_44_code_0 5 rfl rfl rfl) (by decide) (fun h3 => ?_) (fun h3 => ?_)
  · replace hf := gneg hf h3
    exact b_S_strengthBetween_26 X hf hZ hS (lv_sub hl [1, 2, 3, 4] rfl)
  · replace hf := gpos hf h3
    refine lv_iconst (v := iI 2) hx hb (D_5 W_prog_1_method_44_code_0 8 rfl rfl) rfl ?_
    refine lv_iload_n hx hb (D_29 W_prog_1_method_44_code_0 9 rfl rfl) rfl (lv_at hl 3 rfl) ?_
    refine zmul hx hb (D_104 W_prog_1_method_44_code_0 10 rfl rfl) ?_
    refine lv_iload_n hx hb (D_26 W_prog_1_method_44_code_0 11 rfl rfl) rfl (lv_at hl 0 rfl) ?_
    obtain ⟨g4, hf⟩ := gif hf
    obtain ⟨g5, hf⟩ := gif hf
    refine zge (tgt := 26) hx hb g4 g5 (D_162 W_prog_1_method_44_code_0 12 rfl rfl rfl) (by decide) (fun h6 => ?_) (fun h6 => ?_)
    · replace hf := gpos hf h6
      exact b_S_strengthBetween_26 X hf hZ hS (lv_sub hl [1, 2, 3, 4] rfl)
    · replace hf := gneg hf h6
      refine lv_iload_n hx hb (D_26 W_prog_1_method_44_code_0 15 rfl rfl) rfl (lv_at hl 0 rfl) ?_
      refine lv_iconst (v := iI 2) hx hb (D_5 W_prog_1_method_44_code_0 16 rfl rfl) rfl ?_
      refine lv_iload hx hb (D_21 W_prog_1_method_44_code_0 17 rfl rfl) (lv_at hl 4 rfl) ?_
      refine zmul hx hb (D_104 W_prog_1_method_44_code_0 19 rfl rfl) ?_
      obtain ⟨g7, hf⟩ := gif hf
      refine zge (tgt := 26) hx hb g5 g7 (D_162 W_prog_1_method_44_code_0 20 rfl rfl rfl) (by decide) (fun h8 => ?_) (fun h8 => ?_)
      · replace hf := gpos hf h8
        exact b_S_strengthBetween_26 X hf hZ hS (lv_sub hl [1, 2, 3, 4] rfl)
      · replace hf := gneg hf h8
        refine lv_bipush (v := iI 8) hx hb (D_16 W_prog_1_method_44_code_0 23 rfl rfl rfl) (by decide) ?_
        cases hf
        exact W.iret hx hb hr (fun t ht hW => ⟨⟨_, (), rfl, rfl, by rw [ht]; exact hZ, va_K.moved hW.alike hK⟩, hS.F ht⟩) hS.2.2 (D_172 W_prog_1_method_44_code_0 25 rfl rfl) hlk

abbrev Q_Part_isRestNote (K : zK) (D : va_G) (ca : Nat → ClassId) (ad : Nat → Int → Nat → Nat) (L : List Nat) (r : Int) (F : zF) (B : zB) (A : Nat → Prop) : Array Value → State → Outcome → State → Prop := va_Qi (S := Unit) (fun p _ => p = iI r) (fun _ => zPo D ca ad lnC K.2 L F B A) A
def f_Part_isRestNote_38 (K : zK) (s0 : Int) (F : zF) (B : zB) : zO := if (s0 = 0 ∨ s0 = 1) then some (s0, F, B) else none
set_option maxHeartbeats 4000000 in
set_option maxRecDepth 100000 in
theorem b_Part_isRestNote_38 {D : va_G} {ca : Nat → ClassId} {ad : Nat → Int → Nat → Nat} {L : List Nat} {aS vS : Nat → Nat} {A : Nat → Prop} {p : Program} {l : Launch} {e : Env} {s : State} {m : MethodId} {args : Array Value} {below : List Frame} {meth : Method} {c : Code} {K : zK} {r : Int} {F9 : zF} {B9 : zB} (X : zX D ca L aS vS A p s m args meth c prog_6_method_14_code 3 (Option.some Jvm.ClassFile.FieldType.boolean) "StaveHouse$Part") {s0 : Int} {F : zF} {B : zB} {H : Heap} {locs : List Loc} {ls : Array Slot} (hf : f_Part_isRestNote_38 K s0 F B = some (r, F9, B9)) (hZ : zH D ca ad lnC K.2 L F B A H) (hS : va_S A s.heap H locs) (hl : lv_has ls 3 []) : W p l e ({ frames := 0, cells := 0, slots := 0, locals := 0 } : Room) s m args below meth c H locs 0 0 (MQ below (Q_Part_isRestNote K D ca ad L r F9 B9 A) args s 0 0 A) (F0 m 38 ls [.int (iI s0)]) := by
  obtain ⟨hx, hb, hr, hml, hown, hts, hlk, hK, hA, hL, hX⟩ := id X
  replace hf : (if (s0 = 0 ∨ s0 = 1) then some (s0, F, B) else none) = some (r, F9, B9) := hf
  obtain ⟨g11, hf⟩ := gif hf
  cases hf
  exact W.zret hx hb hr (zbool g11) (fun t ht hW => ⟨⟨_, (), rfl, rfl, by rw [ht]; exact hZ, va_K.moved hW.alike hK⟩, hS.F ht⟩) hS.2.2 (D_172 W_prog_6_method_14_code_32 6 rfl rfl) hlk

def f_Part_isRestNote_33 (K : zK)  (F : zF) (B : zB) : zO := f_Part_isRestNote_38 K 1 F B
set_option maxHeartbeats 4000000 in
set_option maxRecDepth 100000 in
theorem b_Part_isRestNote_33 {D : va_G} {ca : Nat → ClassId} {ad : Nat → Int → Nat → Nat} {L : List Nat} {aS vS : Nat → Nat} {A : Nat → Prop} {p : Program} {l : Launch} {e : Env} {s : State} {m : MethodId} {args : Array Value} {below : List Frame} {meth : Method} {c : Code} {K : zK} {r : Int} {F9 : zF} {B9 : zB} (X : zX D ca L aS vS A p s m args meth c prog_6_method_14_code 3 (Option.some Jvm.ClassFile.FieldType.boolean) "StaveHouse$Part")  {F : zF} {B : zB} {H : Heap} {locs : List Loc} {ls : Array Slot} (hf : f_Part_isRestNote_33 K  F B = some (r, F9, B9)) (hZ : zH D ca ad lnC K.2 L F B A H) (hS : va_S A s.heap H locs) (hl : lv_has ls 3 []) : W p l e ({ frames := 0, cells := 0, slots := 0, locals := 0 } : Room) s m args below meth c H locs 0 0 (MQ below (Q_Part_isRestNote K D ca ad L r F9 B9 A) args s 0 0 A) (F0 m 33 ls []) := by
  obtain ⟨hx, hb, hr, hml, hown, hts, hlk, hK, hA, hL, hX⟩ := id X
  replace hf : (f_Part_isRestNote_38 K 1 F B) = some (r, F9, B9) := hf
  refine lv_iconst (v := iI 1) hx hb (D_4 W_prog_6_method_14_code_32 1 rfl rfl) rfl ?_
  refine lv_goto (tgt := 38) hx hb (D_167 W_prog_6_method_14_code_32 2 rfl rfl rfl) (by decide) ?_
  exact b_Part_isRestNote_38 X hf hZ hS (lv_sub hl [] rfl)

def f_Part_isRestNote (K : zK) (l0 : Int) (l1 : Int) (F : zF) (B : zB) : zO := if 0 ≤ l0 ∧ l0 < K.2 4 then if 0 ≤ l1 ∧ l1 < 800 then if r32 (B 4 l0 360 l1) then (if (B 4 l0 360 l1) < 0 then f_Part_isRestNote_33 K F B else if r32 (F 4 l0 6) then (if (F 4 l0 6) ≤ (B 4 l0 360 l1) then f_Part_isRestNote_33 K F B else if 0 ≤ (B 4 l0 360 l1) ∧ (B 4 l0 360 l1) < 200 then if 0 ≤ (B 4 l0 5 (B 4 l0 360 l1)) ∧ (B 4 l0 5 (B 4 l0 360 l1)) < K.2 1 then if r32 (F 1 (B 4 l0 5 (B 4 l0 360 l1)) 10) then (if (F 1 (B 4 l0 5 (B 4 l0 360 l1)) 10) = 0 then f_Part_isRestNote_33 K F B else f_Part_isRestNote_38 K 0 F B) else none else none else none) else none) else none else none else none
set_option maxHeartbeats 4000000 in
set_option maxRecDepth 100000 in
theorem c_Part_isRestNote {l : Launch} {D : va_G} {ca : Nat → ClassId} {ad : Nat → Int → Nat → Nat} {L : List Nat} {aS vS : Nat → Nat} {sz : Nat} {K : zK}  {l0 : Int} {l1 : Int} {F F9 : zF} {B B9 : zB} {r : Int} (hf : f_Part_isRestNote K l0 l1 F B = some (r, F9, B9)) : Met l ({ cls := "StaveHouse$Part", name := "isRestNote", desc := "(I)Z" } : Jvm.MethodName) (Cond.code ({ cls := "StaveHouse$Part", name := "isRestNote", desc := "(I)Z" } : Jvm.MethodName) prog_6_method_14_code 3 (Option.some Jvm.ClassFile.FieldType.boolean) :: wAll) ({ frames := 0, cells := 0, slots := 0, locals := 0 } : Room) (va_Pc [.ref (ad 4 l0 0), .int (iI l1)] (zPre D ca ad lnC K.2 L aS vS F B sz)) (Q_Part_isRestNote K D ca ad L r F9 B9 (zA L sz)) 0 0 (zA L sz) := by
  refine zMet (Qc := Q_Part_isRestNote K D ca ad L r F9 B9) (lv := [(0, .ref (ad 4 l0 0)), (1, .int (iI l1))]) (by decide) (Nat.le_of_ble_eq_true rfl) rfl (fun A p e s m below meth c ls X hZ hS hl => ?_)
  obtain ⟨hx, hb, hr, hml, hown, hts, hlk, hK, hA, hL, hX⟩ := id X
  replace hf : (if 0 ≤ l0 ∧ l0 < K.2 4 then if 0 ≤ l1 ∧ l1 < 800 then if r32 (B 4 l0 360 l1) then (if (B 4 l0 360 l1) < 0 then f_Part_isRestNote_33 K F B else if r32 (F 4 l0 6) then (if (F 4 l0 6) ≤ (B 4 l0 360 l1) then f_Part_isRestNote_33 K F B else if 0 ≤ (B 4 l0 360 l1) ∧ (B 4 l0 360 l1) < 200 then if 0 ≤ (B 4 l0 5 (B 4 l0 360 l1)) ∧ (B 4 l0 5 (B 4 l0 360 l1)) < K.2 1 then if r32 (F 1 (B 4 l0 5 (B 4 l0 360 l1)) 10) then (if (F 1 (B 4 l0 5 (B 4 l0 360 l1)) 10) = 0 then f_Part_isRestNote_33 K F B else f_Part_isRestNote_38 K 0 F B) else none else none else none) else none) else none else none else none) = some (r, F9, B9) := hf
  refine lv_aload_n hx hb (D_42 W_prog_6_method_14_code_0 0 rfl rfl) rfl (lv_at hl 0 rfl) ?_
  obtain ⟨g1, hf⟩ := gif hf
  refine zget (ci := 4) (C := RX4) (T := TX4) (v := .ref (ad 4 l0 (8 + 1))) (k := 8) hx hb hts inW_4 hown hK hZ g1.1 g1.2 rfl (by decide) k_4_142 rfl (D_180 W_prog_6_method_14_code_0 1 rfl rfl rfl) ?_
  refine lv_iconst (v := iI 0) hx hb (D_3 W_prog_6_method_14_code_0 4 rfl rfl) rfl ?_
  refine zaldQ (t := 0) (ci := 4) (k := 8) hx hb hK rfl hZ g1.1 g1.2 rfl (Nat.le_of_ble_eq_true rfl) (by decide) (by decide) (D_50 W_prog_6_method_14_code_0 5 rfl rfl) ?_
  refine W.eq (g2 := F0 m 6 ls [.ref (ad 4 l0 (360 + 1))]) rfl ?_
  refine lv_iload_n hx hb (D_27 W_prog_6_method_14_code_0 6 rfl rfl) rfl (lv_at hl 1 rfl) ?_
  obtain ⟨g2, hf⟩ := gif hf
  refine zald (ci := 4) (k := 360) hx hb hK rfl hZ g1.1 g1.2 rfl (Nat.le_of_ble_eq_true rfl) g2.1 g2.2 (D_46 W_prog_6_method_14_code_0 7 rfl rfl) ?_
  refine lv_istore_n (lv' := [(2, .int (iI (B 4 l0 360 l1))), (0, .ref (ad 4 l0 0)), (1, .int (iI l1))]) hx hb (D_61 W_prog_6_method_14_code_0 8 rfl rfl) rfl hl (by decide) rfl (fun ls hl => ?_)
  refine lv_iload_n hx hb (D_28 W_prog_6_method_14_code_0 9 rfl rfl) rfl (lv_at hl 0 rfl) ?_
  obtain ⟨g3, hf⟩ := gif hf
  refine z0lt (tgt := 33) hx hb g3 (D_155 W_prog_6_method_14_code_0 10 rfl rfl rfl) (by decide) (fun h4 => ?_) (fun h4 => ?_)
  · replace hf := gpos hf h4
    exact b_Part_isRestNote_33 X hf hZ hS (lv_sub hl [] rfl)
  · replace hf := gneg hf h4
    refine lv_iload_n hx hb (D_28 W_prog_6_method_14_code_0 13 rfl rfl) rfl (lv_at hl 0 rfl) ?_
    refine lv_aload_n hx hb (D_42 W_prog_6_method_14_code_0 14 rfl rfl) rfl (lv_at hl 1 rfl) ?_
    refine zget (ci := 4) (C := RX4) (T := TX4) (v := .int (iI (F 4 l0 6))) (k := 6) hx hb hts inW_4 hown hK hZ g1.1 g1.2 rfl (by decide) k_4_135 rfl (D_180 W_prog_6_method_14_code_0 15 rfl rfl rfl) ?_
    obtain ⟨g5, hf⟩ := gif hf
    refine zge (tgt := 33) hx hb g3 g5 (D_162 W_prog_6_method_14_code_0 18 rfl rfl rfl) (by decide) (fun h6 => ?_) (fun h6 => ?_)
    · replace hf := gpos hf h6
      exact b_Part_isRestNote_33 X hf hZ hS (lv_sub hl [] rfl)
    · replace hf := gneg hf h6
      refine lv_aload_n hx hb (D_42 W_prog_6_method_14_code_0 21 rfl rfl) rfl (lv_at hl 1 rfl) ?_
      refine zget (ci := 4) (C := RX4) (T := TX4) (v := .ref (ad 4 l0 (5 + 1))) (k := 5) hx hb hts inW_4 hown hK hZ g1.1 g1.2 rfl (by decide) k_4_130 rfl (D_180 W_prog_6_method_14_code_0 22 rfl rfl rfl) ?_
      refine lv_iload_n hx hb (D_28 W_prog_6_method_14_code_0 25 rfl rfl) rfl (lv_at hl 0 rfl) ?_
      obtain ⟨g7, hf⟩ := gif hf
      refine zaldR (t := 1) (x := 7) (ci := 4) (k := 5) hx hb hK rfl rfl hZ g1.1 g1.2 rfl (Nat.le_of_ble_eq_true rfl) g7.1 g7.2 (D_50 W_prog_6_method_14_code_0 26 rfl rfl) ?_
      obtain ⟨g8, hf⟩ := gif hf
      refine zunrf g8.1 ?_
      refine zget (ci := 1) (C := RX1) (T := TX1) (v := .int (iI (F 1 (B 4 l0 5 (B 4 l0 360 l1)) 10))) (k := 10) hx hb hts inW_1 hown hK hZ g8.1 g8.2 rfl (by decide) k_2_54 rfl (D_180 W_prog_6_method_14_code_0 27 rfl rfl rfl) ?_
      obtain ⟨g9, hf⟩ := gif hf
      refine z0ne (tgt := 37) hx hb g9 (D_154 W_prog_6_method_14_code_0 30 rfl rfl rfl) (by decide) (fun h10 => ?_) (fun h10 => ?_)
      · replace hf := gneg hf h10
        refine lv_iconst (v := iI 0) hx hb (D_3 W_prog_6_method_14_code_32 5 rfl rfl) rfl ?_
        exact b_Part_isRestNote_38 X hf hZ hS (lv_sub hl [] rfl)
      · replace hf := gpos hf h10
        exact b_Part_isRestNote_33 X hf hZ hS (lv_sub hl [] rfl)

abbrev Q_Part_continues (K : zK) (D : va_G) (ca : Nat → ClassId) (ad : Nat → Int → Nat → Nat) (L : List Nat) (r : Int) (F : zF) (B : zB) (A : Nat → Prop) : Array Value → State → Outcome → State → Prop := va_Qi (S := Unit) (fun p _ => p = iI r) (fun _ => zPo D ca ad lnC K.2 L F B A) A
def f_Part_continues_38 (K : zK) (s0 : Int) (F : zF) (B : zB) : zO := if (s0 = 0 ∨ s0 = 1) then some (s0, F, B) else none
set_option maxHeartbeats 4000000 in
set_option maxRecDepth 100000 in
theorem b_Part_continues_38 {D : va_G} {ca : Nat → ClassId} {ad : Nat → Int → Nat → Nat} {L : List Nat} {aS vS : Nat → Nat} {A : Nat → Prop} {p : Program} {l : Launch} {e : Env} {s : State} {m : MethodId} {args : Array Value} {below : List Frame} {meth : Method} {c : Code} {K : zK} {r : Int} {F9 : zF} {B9 : zB} (X : zX D ca L aS vS A p s m args meth c prog_6_method_15_code 2 (Option.some Jvm.ClassFile.FieldType.boolean) "StaveHouse$Part") {s0 : Int} {F : zF} {B : zB} {H : Heap} {locs : List Loc} {ls : Array Slot} (hf : f_Part_continues_38 K s0 F B = some (r, F9, B9)) (hZ : zH D ca ad lnC K.2 L F B A H) (hS : va_S A s.heap H locs) (hl : lv_has ls 2 []) : W p l e ({ frames := 0, cells := 0, slots := 0, locals := 0 } : Room) s m args below meth c H locs 0 0 (MQ below (Q_Part_continues K D ca ad L r F9 B9 A) args s 0 0 A) (F0 m 38 ls [.int (iI s0)]) := by
  obtain ⟨hx, hb, hr, hml, hown, hts, hlk, hK, hA, hL, hX⟩ := id X
  replace hf : (if (s0 = 0 ∨ s0 = 1) then some (s0, F, B) else none) = some (r, F9, B9) := hf
  obtain ⟨g11, hf⟩ := gif hf
  cases hf
  exact W.zret hx hb hr (zbool g11) (fun t ht hW => ⟨⟨_, (), rfl, rfl, by rw [ht]; exact hZ, va_K.moved hW.alike hK⟩, hS.F ht⟩) hS.2.2 (D_172 W_prog_6_method_15_code_32 6 rfl rfl) hlk

def f_Part_continues_37 (K : zK)  (F : zF) (B : zB) : zO := f_Part_continues_38 K 0 F B
set_option maxHeartbeats 4000000 in
set_option maxRecDepth 100000 in
theorem b_Part_continues_37 {D : va_G} {ca : Nat → ClassId} {ad : Nat → Int → Nat → Nat} {L : List Nat} {aS vS : Nat → Nat} {A : Nat → Prop} {p : Program} {l : Launch} {e : Env} {s : State} {m : MethodId} {args : Array Value} {below : List Frame} {meth : Method} {c : Code} {K : zK} {r : Int} {F9 : zF} {B9 : zB} (X : zX D ca L aS vS A p s m args meth c prog_6_method_15_code 2 (Option.some Jvm.ClassFile.FieldType.boolean) "StaveHouse$Part")  {F : zF} {B : zB} {H : Heap} {locs : List Loc} {ls : Array Slot} (hf : f_Part_continues_37 K  F B = some (r, F9, B9)) (hZ : zH D ca ad lnC K.2 L F B A H) (hS : va_S A s.heap H locs) (hl : lv_has ls 2 []) : W p l e ({ frames := 0, cells := 0, slots := 0, locals := 0 } : Room) s m args below meth c H locs 0 0 (MQ below (Q_Part_continues K D ca ad L r F9 B9 A) args s 0 0 A) (F0 m 37 ls []) := by
  obtain ⟨hx, hb, hr, hml, hown, hts, hlk, hK, hA, hL, hX⟩ := id X
  replace hf : (f_Part_continues_38 K 0 F B) = some (r, F9, B9) := hf
  refine lv_iconst (v := iI 0) hx hb (D_3 W_prog_6_method_15_code_32 5 rfl rfl) rfl ?_
  exact b_Part_continues_38 X hf hZ hS (lv_sub hl [] rfl)

def f_Part_continues (K : zK) (l0 : Int) (l1 : Int) (F : zF) (B : zB) : zO := if r32 l1 then (if l1 ≤ 0 then f_Part_continues_37 K F B else if 0 ≤ l0 ∧ l0 < K.2 4 then if r32 (F 4 l0 10) then (if (F 4 l0 10) ≤ l1 then f_Part_continues_37 K F B else if 0 ≤ l1 ∧ l1 < 800 then if 0 ≤ (l1 - 1) ∧ (l1 - 1) < 800 then if r32 (B 4 l0 360 l1) then if r32 (B 4 l0 360 (l1 - 1)) then (if (B 4 l0 360 l1) = (B 4 l0 360 (l1 - 1)) then f_Part_continues_38 K 1 F B else f_Part_continues_37 K F B) else none else none else none else none) else none else none) else none
set_option maxHeartbeats 4000000 in
set_option maxRecDepth 100000 in
theorem c_Part_continues {l : Launch} {D : va_G} {ca : Nat → ClassId} {ad : Nat → Int → Nat → Nat} {L : List Nat} {aS vS : Nat → Nat} {sz : Nat} {K : zK}  {l0 : Int} {l1 : Int} {F F9 : zF} {B B9 : zB} {r : Int} (hf : f_Part_continues K l0 l1 F B = some (r, F9, B9)) : Met l ({ cls := "StaveHouse$Part", name := "continues", desc := "(I)Z" } : Jvm.MethodName) (Cond.code ({ cls := "StaveHouse$Part", name := "continues", desc := "(I)Z" } : Jvm.MethodName) prog_6_method_15_code 2 (Option.some Jvm.ClassFile.FieldType.boolean) :: wAll) ({ frames := 0, cells := 0, slots := 0, locals := 0 } : Room) (va_Pc [.ref (ad 4 l0 0), .int (iI l1)] (zPre D ca ad lnC K.2 L aS vS F B sz)) (Q_Part_continues K D ca ad L r F9 B9 (zA L sz)) 0 0 (zA L sz) := by
  refine zMet (Qc := Q_Part_continues K D ca ad L r F9 B9) (lv := [(0, .ref (ad 4 l0 0)), (1, .int (iI l1))]) (by decide) (Nat.le_of_ble_eq_true rfl) rfl (fun A p e s m below meth c ls X hZ hS hl => ?_)
  obtain ⟨hx, hb, hr, hml, hown, hts, hlk, hK, hA, hL, hX⟩ := id X
  replace hf : (if r32 l1 then (if l1 ≤ 0 then f_Part_continues_37 K F B else if 0 ≤ l0 ∧ l0 < K.2 4 then if r32 (F 4 l0 10) then (if (F 4 l0 10) ≤ l1 then f_Part_continues_37 K F B else if 0 ≤ l1 ∧ l1 < 800 then if 0 ≤ (l1 - 1) ∧ (l1 - 1) < 800 then if r32 (B 4 l0 360 l1) then if r32 (B 4 l0 360 (l1 - 1)) then (if (B 4 l0 360 l1) = (B 4 l0 360 (l1 - 1)) then f_Part_continues_38 K 1 F B else f_Part_continues_37 K F B) else none else none else none else none) else none else none) else none) = some (r, F9, B9) := hf
  refine lv_iload_n hx hb (D_27 W_prog_6_method_15_code_0 0 rfl rfl) rfl (lv_at hl 1 rfl) ?_
  obtain ⟨g1, hf⟩ := gif hf
  refine z0le (tgt := 37) hx hb g1 (D_158 W_prog_6_method_15_code_0 1 rfl rfl rfl) (by decide) (fun h2 => ?_) (fun h2 => ?_)
  · replace hf := gpos hf h2
    exact b_Part_continues_37 X hf hZ hS (lv_sub hl [] rfl)
  · replace hf := gneg hf h2
    refine lv_iload_n hx hb (D_27 W_prog_6_method_15_code_0 4 rfl rfl) rfl (lv_at hl 1 rfl) ?_
    refine lv_aload_n hx hb (D_42 W_prog_6_method_15_code_0 5 rfl rfl) rfl (lv_at hl 0 rfl) ?_
    obtain ⟨g3, hf⟩ := gif hf
    refine zget (ci := 4) (C := RX4) (T := TX4) (v := .int (iI (F 4 l0 10))) (k := 10) hx hb hts inW_4 hown hK hZ g3.1 g3.2 rfl (by decide) k_4_148 rfl (D_180 W_prog_6_method_15_code_0 6 rfl rfl rfl) ?_
    obtain ⟨g4, hf⟩ := gif hf
    refine zge (tgt := 37) hx hb g1 g4 (D_162 W_prog_6_method_15_code_0 9 rfl rfl rfl) (by decide) (fun h5 => ?_) (fun h5 => ?_)
    · replace hf := gpos hf h5
      exact b_Part_continues_37 X hf hZ hS (lv_sub hl [] rfl)
    · replace hf := gneg hf h5
      refine lv_aload_n hx hb (D_42 W_prog_6_method_15_code_0 12 rfl rfl) rfl (lv_at hl 0 rfl) ?_
      refine zget (ci := 4) (C := RX4) (T := TX4) (v := .ref (ad 4 l0 (8 + 1))) (k := 8) hx hb hts inW_4 hown hK hZ g3.1 g3.2 rfl (by decide) k_4_142 rfl (D_180 W_prog_6_method_15_code_0 13 rfl rfl rfl) ?_
      refine lv_iconst (v := iI 0) hx hb (D_3 W_prog_6_method_15_code_0 16 rfl rfl) rfl ?_
      refine zaldQ (t := 0) (ci := 4) (k := 8) hx hb hK rfl hZ g3.1 g3.2 rfl (Nat.le_of_ble_eq_true rfl) (by decide) (by decide) (D_50 W_prog_6_method_15_code_0 17 rfl rfl) ?_
      refine W.eq (g2 := F0 m 18 ls [.ref (ad 4 l0 (360 + 1))]) rfl ?_
      refine lv_iload_n hx hb (D_27 W_prog_6_method_15_code_0 18 rfl rfl) rfl (lv_at hl 1 rfl) ?_
      obtain ⟨g6, hf⟩ := gif hf
      refine zald (ci := 4) (k := 360) hx hb hK rfl hZ g3.1 g3.2 rfl (Nat.le_of_ble_eq_true rfl) g6.1 g6.2 (D_46 W_prog_6_method_15_code_0 19 rfl rfl) ?_
      refine lv_aload_n hx hb (D_42 W_prog_6_method_15_code_0 20 rfl rfl) rfl (lv_at hl 0 rfl) ?_
      refine zget (ci := 4) (C := RX4) (T := TX4) (v := .ref (ad 4 l0 (8 + 1))) (k := 8) hx hb hts inW_4 hown hK hZ g3.1 g3.2 rfl (by decide) k_4_142 rfl (D_180 W_prog_6_method_15_code_0 21 rfl rfl rfl) ?_
      refine lv_iconst (v := iI 0) hx hb (D_3 W_prog_6_method_15_code_0 24 rfl rfl) rfl ?_
      refine zaldQ (t := 0) (ci := 4) (k := 8) hx hb hK rfl hZ g3.1 g3.2 rfl (Nat.le_of_ble_eq_true rfl) (by decide) (by decide) (D_50 W_prog_6_method_15_code_0 25 rfl rfl) ?_
      refine W.eq (g2 := F0 m 26 ls [.ref (ad 4 l0 (360 + 1)), .int (iI (B 4 l0 360 l1))]) rfl ?_
      refine lv_iload_n hx hb (D_27 W_prog_6_method_15_code_0 26 rfl rfl) rfl (lv_at hl 1 rfl) ?_
      refine lv_iconst (v := iI 1) hx hb (D_4 W_prog_6_method_15_code_0 27 rfl rfl) rfl ?_
      refine zsub hx hb (D_100 W_prog_6_method_15_code_0 28 rfl rfl) ?_
      obtain ⟨g7, hf⟩ := gif hf
      refine zald (ci := 4) (k := 360) hx hb hK rfl hZ g3.1 g3.2 rfl (Nat.le_of_ble_eq_true rfl) g7.1 g7.2 (D_46 W_prog_6_method_15_code_0 29 rfl rfl) ?_
      obtain ⟨g8, hf⟩ := gif hf
      obtain ⟨g9, hf⟩ := gif hf
      refine zne (tgt := 37) hx hb g8 g9 (D_160 W_prog_6_method_15_code_0 30 rfl rfl rfl) (by decide) (fun h10 => ?_) (fun h10 => ?_)
      · replace hf := gneg hf h10
        exact b_Part_continues_37 X hf hZ hS (lv_sub hl [] rfl)
      · replace hf := gpos hf h10
        refine lv_iconst (v := iI 1) hx hb (D_4 W_prog_6_method_15_code_32 1 rfl rfl) rfl ?_
        refine lv_goto (tgt := 38) hx hb (D_167 W_prog_6_method_15_code_32 2 rfl rfl rfl) (by decide) ?_
        exact b_Part_continues_38 X hf hZ hS (lv_sub hl [] rfl)

abbrev Q_S_keyAlteration (K : zK) (D : va_G) (ca : Nat → ClassId) (ad : Nat → Int → Nat → Nat) (L : List Nat) (r : Int) (F : zF) (B : zB) (A : Nat → Prop) : Array Value → State → Outcome → State → Prop := va_Qi (S := Unit) (fun p _ => p = iI r) (fun _ => zPo D ca ad lnC K.2 L F B A) A
def f_S_keyAlteration_40 (K : zK) (s0 : Int) (F : zF) (B : zB) : zO := some (s0, F, B)
set_option maxHeartbeats 4000000 in
set_option maxRecDepth 100000 in
theorem b_S_keyAlteration_40 {D : va_G} {ca : Nat → ClassId} {ad : Nat → Int → Nat → Nat} {L : List Nat} {aS vS : Nat → Nat} {A : Nat → Prop} {p : Program} {l : Launch} {e : Env} {s : State} {m : MethodId} {args : Array Value} {below : List Frame} {meth : Method} {c : Code} {K : zK} {r : Int} {F9 : zF} {B9 : zB} (X : zX D ca L aS vS A p s m args meth c prog_1_method_38_code 3 (Option.some Jvm.ClassFile.FieldType.int) "StaveHouse") {s0 : Int} {F : zF} {B : zB} {H : Heap} {locs : List Loc} {ls : Array Slot} (hf : f_S_keyAlteration_40 K s0 F B = some (r, F9, B9)) (hZ : zH D ca ad lnC K.2 L F B A H) (hS : va_S A s.heap H locs) (hl : lv_has ls 3 []) : W p l e ({ frames := 1, cells := 0, slots := 0, locals := 22 } : Room) s m args below meth c H locs 0 0 (MQ below (Q_S_keyAlteration K D ca ad L r F9 B9 A) args s 0 0 A) (F0 m 40 ls [.int (iI s0)]) := by
  obtain ⟨hx, hb, hr, hml, hown, hts, hlk, hK, hA, hL, hX⟩ := id X
  replace hf : (some (s0, F, B)) = some (r, F9, B9) := hf
  cases hf
  exact W.iret hx hb hr (fun t ht hW => ⟨⟨_, (), rfl, rfl, by rw [ht]; exact hZ, va_K.moved hW.alike hK⟩, hS.F ht⟩) hS.2.2 (D_172 W_prog_1_method_38_code_32 8 rfl rfl) hlk

def f_S_keyAlteration_25 (K : zK) (s0 : Int) (F : zF) (B : zB) : zO := some (s0, F, B)
set_option maxHeartbeats 4000000 in
set_option maxRecDepth 100000 in
theorem b_S_keyAlteration_25 {D : va_G} {ca : Nat → ClassId} {ad : Nat → Int → Nat → Nat} {L : List Nat} {aS vS : Nat → Nat} {A : Nat → Prop} {p : Program} {l : Launch} {e : Env} {s : State} {m : MethodId} {args : Array Value} {below : List Frame} {meth : Method} {c : Code} {K : zK} {r : Int} {F9 : zF} {B9 : zB} (X : zX D ca L aS vS A p s m args meth c prog_1_method_38_code 3 (Option.some Jvm.ClassFile.FieldType.int) "StaveHouse") {s0 : Int} {F : zF} {B : zB} {H : Heap} {locs : List Loc} {ls : Array Slot} (hf : f_S_keyAlteration_25 K s0 F B = some (r, F9, B9)) (hZ : zH D ca ad lnC K.2 L F B A H) (hS : va_S A s.heap H locs) (hl : lv_has ls 3 []) : W p l e ({ frames := 1, cells := 0, slots := 0, locals := 22 } : Room) s m args below meth c H locs 0 0 (MQ below (Q_S_keyAlteration K D ca ad L r F9 B9 A) args s 0 0 A) (F0 m 25 ls [.int (iI s0)]) := by
  obtain ⟨hx, hb, hr, hml, hown, hts, hlk, hK, hA, hL, hX⟩ := id X
  replace hf : (some (s0, F, B)) = some (r, F9, B9) := hf
  cases hf
  exact W.iret hx hb hr (fun t ht hW => ⟨⟨_, (), rfl, rfl, by rw [ht]; exact hZ, va_K.moved hW.alike hK⟩, hS.F ht⟩) hS.2.2 (D_172 W_prog_1_method_38_code_0 25 rfl rfl) hlk

def f_S_keyAlteration (K : zK) (l0 : Int) (l1 : Int) (F : zF) (B : zB) : zO := zbind (f_Math_floorMod K l1 7 F B) (fun r1 F1 B1 => if 0 ≤ r1 ∧ r1 < ztl 7 then if r32 l0 then (if l0 ≤ 0 then if r32 (6 - (ztv 7 r1)) then if r32 (-l0) then (if (-l0) ≤ (6 - (ztv 7 r1)) then f_S_keyAlteration_40 K 0 F1 B1 else f_S_keyAlteration_40 K (-1) F1 B1) else none else none else if r32 (ztv 7 r1) then (if l0 ≤ (ztv 7 r1) then f_S_keyAlteration_25 K 0 F1 B1 else f_S_keyAlteration_25 K 1 F1 B1) else none) else none else none)
set_option maxHeartbeats 4000000 in
set_option maxRecDepth 100000 in
theorem c_S_keyAlteration {l : Launch} {D : va_G} {ca : Nat → ClassId} {ad : Nat → Int → Nat → Nat} {L : List Nat} {aS vS : Nat → Nat} {sz : Nat} {K : zK}  {l0 : Int} {l1 : Int} {F F9 : zF} {B B9 : zB} {r : Int} (hf : f_S_keyAlteration K l0 l1 F B = some (r, F9, B9)) : Met l ({ cls := "StaveHouse", name := "keyAlteration", desc := "(II)I" } : Jvm.MethodName) (Cond.code ({ cls := "StaveHouse", name := "keyAlteration", desc := "(II)I" } : Jvm.MethodName) prog_1_method_38_code 3 (Option.some Jvm.ClassFile.FieldType.int) :: wAll) ({ frames := 1, cells := 0, slots := 0, locals := 22 } : Room) (va_Pc [.int (iI l0), .int (iI l1)] (zPre D ca ad lnC K.2 L aS vS F B sz)) (Q_S_keyAlteration K D ca ad L r F9 B9 (zA L sz)) 0 0 (zA L sz) := by
  refine zMet (Qc := Q_S_keyAlteration K D ca ad L r F9 B9) (lv := [(0, .int (iI l0)), (1, .int (iI l1))]) (by decide) (Nat.le_of_ble_eq_true rfl) rfl (fun A p e s m below meth c ls X hZ hS hl => ?_)
  obtain ⟨hx, hb, hr, hml, hown, hts, hlk, hK, hA, hL, hX⟩ := id X
  replace hf : (zbind (f_Math_floorMod K l1 7 F B) (fun r1 F1 B1 => if 0 ≤ r1 ∧ r1 < ztl 7 then if r32 l0 then (if l0 ≤ 0 then if r32 (6 - (ztv 7 r1)) then if r32 (-l0) then (if (-l0) ≤ (6 - (ztv 7 r1)) then f_S_keyAlteration_40 K 0 F1 B1 else f_S_keyAlteration_40 K (-1) F1 B1) else none else none else if r32 (ztv 7 r1) then (if l0 ≤ (ztv 7 r1) then f_S_keyAlteration_25 K 0 F1 B1 else f_S_keyAlteration_25 K 1 F1 B1) else none) else none else none)) = some (r, F9, B9) := hf
  refine va_gets hx hb (hX.2.2.2.2.2.2 7 _ rfl).1 hS hown (hts _ k_5_119) (fun _ h => h) (D_178 W_prog_1_method_38_code_0 0 rfl rfl rfl) ?_
  refine W.eq (g2 := F0 m 3 ls [.ref (vS (1000 + 7))]) rfl ?_
  refine lv_iload_n hx hb (D_27 W_prog_1_method_38_code_0 3 rfl rfl) rfl (lv_at hl 1 rfl) ?_
  refine lv_bipush (v := iI 7) hx hb (D_16 W_prog_1_method_38_code_0 4 rfl rfl rfl) (by decide) ?_
  obtain ⟨r1, F1, B1, hc1, hf⟩ := gbind hf
  refine va_calli (va_runS (As := [.int (iI l1), .int (iI 7)]) (rest := [.ref (vS (1000 + 7))]) ⟨hx, hb, hml, hown, hts⟩ (c_Math_floorMod (l := l) hc1) (va_cwS 2 hts (gdS k_4_70 k_4_71 k_1_3 k_4_72) rfl rfl rfl (by decide +kernel) ⟨Nat.le_of_ble_eq_true rfl, Nat.le_of_ble_eq_true rfl⟩) (zPS X hZ hS [.int (iI l1), .int (iI 7)]) rfl rfl hl.1 rfl (lv_room (Nat.le_of_ble_eq_true rfl)) (D_184 W_prog_1_method_38_code_0 6 rfl rfl rfl) ⟨Nat.le_of_ble_eq_true rfl, Nat.le_of_ble_eq_true rfl⟩) hS (fun q _ h => zAin X hS q h) (zAin X hS) (fun p1 u1 t1 H1 locs1 ht1 hv1 hw1 hB1 hz1 hk1 hS1 => ?_)
  have hZ1 := zBack X ht1 hB1
  subst hw1
  obtain ⟨g2, hf⟩ := gif hf
  refine va_ti (v := .int (iI (ztv 7 r1))) hx hb (ztI hX (by decide) (by decide)) hS1 (zt_in (by decide) g2) (ztI_v (by decide) g2) (D_46 W_prog_1_method_38_code_0 9 rfl rfl) ?_
  refine lv_istore_n (lv' := [(2, .int (iI (ztv 7 r1))), (0, .int (iI l0)), (1, .int (iI l1))]) hx hb (D_61 W_prog_1_method_38_code_0 10 rfl rfl) rfl hl (by decide) rfl (fun ls hl => ?_)
  refine lv_iload_n hx hb (D_26 W_prog_1_method_38_code_0 11 rfl rfl) rfl (lv_at hl 1 rfl) ?_
  obtain ⟨g3, hf⟩ := gif hf
  refine z0le (tgt := 26) hx hb g3 (D_158 W_prog_1_method_38_code_0 12 rfl rfl rfl) (by decide) (fun h4 => ?_) (fun h4 => ?_)
  · replace hf := gpos hf h4
    refine lv_bipush (v := iI 6) hx hb (D_16 W_prog_1_method_38_code_0 26 rfl rfl rfl) (by decide) ?_
    refine lv_iload_n hx hb (D_28 W_prog_1_method_38_code_0 28 rfl rfl) rfl (lv_at hl 0 rfl) ?_
    refine zsub hx hb (D_100 W_prog_1_method_38_code_0 29 rfl rfl) ?_
    refine lv_iload_n hx hb (D_26 W_prog_1_method_38_code_0 30 rfl rfl) rfl (lv_at hl 1 rfl) ?_
    refine zneg hx hb (D_116 W_prog_1_method_38_code_0 31 rfl rfl) ?_
    obtain ⟨g5, hf⟩ := gif hf
    obtain ⟨g6, hf⟩ := gif hf
    refine zge (tgt := 39) hx hb g5 g6 (D_162 W_prog_1_method_38_code_32 0 rfl rfl rfl) (by decide) (fun h7 => ?_) (fun h7 => ?_)
    · replace hf := gpos hf h7
      refine lv_iconst (v := iI 0) hx hb (D_3 W_prog_1_method_38_code_32 7 rfl rfl) rfl ?_
      exact b_S_keyAlteration_40 X hf hZ1 hS1 (lv_sub hl [] rfl)
    · replace hf := gneg hf h7
      refine lv_iconst (v := iI (-1)) hx hb (D_2 W_prog_1_method_38_code_32 3 rfl rfl) rfl ?_
      refine lv_goto (tgt := 40) hx hb (D_167 W_prog_1_method_38_code_32 4 rfl rfl rfl) (by decide) ?_
      exact b_S_keyAlteration_40 X hf hZ1 hS1 (lv_sub hl [] rfl)
  · replace hf := gneg hf h4
    refine lv_iload_n hx hb (D_28 W_prog_1_method_38_code_0 15 rfl rfl) rfl (lv_at hl 0 rfl) ?_
    refine lv_iload_n hx hb (D_26 W_prog_1_method_38_code_0 16 rfl rfl) rfl (lv_at hl 1 rfl) ?_
    obtain ⟨g8, hf⟩ := gif hf
    refine zge (tgt := 24) hx hb g8 g3 (D_162 W_prog_1_method_38_code_0 17 rfl rfl rfl) (by decide) (fun h9 => ?_) (fun h9 => ?_)
    · replace hf := gpos hf h9
      refine lv_iconst (v := iI 0) hx hb (D_3 W_prog_1_method_38_code_0 24 rfl rfl) rfl ?_
      exact b_S_keyAlteration_25 X hf hZ1 hS1 (lv_sub hl [] rfl)
    · replace hf := gneg hf h9
      refine lv_iconst (v := iI 1) hx hb (D_4 W_prog_1_method_38_code_0 20 rfl rfl) rfl ?_
      refine lv_goto (tgt := 25) hx hb (D_167 W_prog_1_method_38_code_0 21 rfl rfl rfl) (by decide) ?_
      exact b_S_keyAlteration_25 X hf hZ1 hS1 (lv_sub hl [] rfl)

abbrev Q_Part_isTiedFrom (K : zK) (D : va_G) (ca : Nat → ClassId) (ad : Nat → Int → Nat → Nat) (L : List Nat) (r : Int) (F : zF) (B : zB) (A : Nat → Prop) : Array Value → State → Outcome → State → Prop := va_Qi (S := Unit) (fun p _ => p = iI r) (fun _ => zPo D ca ad lnC K.2 L F B A) A
def f_Part_isTiedFrom_57 (K : zK) (s0 : Int) (F : zF) (B : zB) : zO := if (s0 = 0 ∨ s0 = 1) then some (s0, F, B) else none
set_option maxHeartbeats 4000000 in
set_option maxRecDepth 100000 in
theorem b_Part_isTiedFrom_57 {D : va_G} {ca : Nat → ClassId} {ad : Nat → Int → Nat → Nat} {L : List Nat} {aS vS : Nat → Nat} {A : Nat → Prop} {p : Program} {l : Launch} {e : Env} {s : State} {m : MethodId} {args : Array Value} {below : List Frame} {meth : Method} {c : Code} {K : zK} {r : Int} {F9 : zF} {B9 : zB} (X : zX D ca L aS vS A p s m args meth c prog_6_method_8_code 4 (Option.some Jvm.ClassFile.FieldType.boolean) "StaveHouse$Part") {s0 : Int} {F : zF} {B : zB} {H : Heap} {locs : List Loc} {ls : Array Slot} (hf : f_Part_isTiedFrom_57 K s0 F B = some (r, F9, B9)) (hZ : zH D ca ad lnC K.2 L F B A H) (hS : va_S A s.heap H locs) (hl : lv_has ls 4 []) : W p l e ({ frames := 1, cells := 0, slots := 0, locals := 23 } : Room) s m args below meth c H locs 0 0 (MQ below (Q_Part_isTiedFrom K D ca ad L r F9 B9 A) args s 0 0 A) (F0 m 57 ls [.int (iI s0)]) := by
  obtain ⟨hx, hb, hr, hml, hown, hts, hlk, hK, hA, hL, hX⟩ := id X
  replace hf : (if (s0 = 0 ∨ s0 = 1) then some (s0, F, B) else none) = some (r, F9, B9) := hf
  obtain ⟨g16, hf⟩ := gif hf
  cases hf
  exact W.zret hx hb hr (zbool g16) (fun t ht hW => ⟨⟨_, (), rfl, rfl, by rw [ht]; exact hZ, va_K.moved hW.alike hK⟩, hS.F ht⟩) hS.2.2 (D_172 W_prog_6_method_8_code_32 25 rfl rfl) hlk

def f_Part_isTiedFrom_56 (K : zK)  (F : zF) (B : zB) : zO := f_Part_isTiedFrom_57 K 0 F B
set_option maxHeartbeats 4000000 in
set_option maxRecDepth 100000 in
theorem b_Part_isTiedFrom_56 {D : va_G} {ca : Nat → ClassId} {ad : Nat → Int → Nat → Nat} {L : List Nat} {aS vS : Nat → Nat} {A : Nat → Prop} {p : Program} {l : Launch} {e : Env} {s : State} {m : MethodId} {args : Array Value} {below : List Frame} {meth : Method} {c : Code} {K : zK} {r : Int} {F9 : zF} {B9 : zB} (X : zX D ca L aS vS A p s m args meth c prog_6_method_8_code 4 (Option.some Jvm.ClassFile.FieldType.boolean) "StaveHouse$Part")  {F : zF} {B : zB} {H : Heap} {locs : List Loc} {ls : Array Slot} (hf : f_Part_isTiedFrom_56 K  F B = some (r, F9, B9)) (hZ : zH D ca ad lnC K.2 L F B A H) (hS : va_S A s.heap H locs) (hl : lv_has ls 4 []) : W p l e ({ frames := 1, cells := 0, slots := 0, locals := 23 } : Room) s m args below meth c H locs 0 0 (MQ below (Q_Part_isTiedFrom K D ca ad L r F9 B9 A) args s 0 0 A) (F0 m 56 ls []) := by
  obtain ⟨hx, hb, hr, hml, hown, hts, hlk, hK, hA, hL, hX⟩ := id X
  replace hf : (f_Part_isTiedFrom_57 K 0 F B) = some (r, F9, B9) := hf
  refine lv_iconst (v := iI 0) hx hb (D_3 W_prog_6_method_8_code_32 24 rfl rfl) rfl ?_
  exact b_Part_isTiedFrom_57 X hf hZ hS (lv_sub hl [] rfl)

def f_Part_isTiedFrom (K : zK) (l0 : Int) (l1 : Int) (l2 : Int) (F : zF) (B : zB) : zO := if 0 ≤ l0 ∧ l0 < K.2 4 then if 0 ≤ l1 ∧ l1 < 200 then if r32 l1 then (if l1 ≤ 0 then f_Part_isTiedFrom_56 K F B else if 0 ≤ (l1 - 1) ∧ (l1 - 1) < 200 then if 0 ≤ (B 4 l0 5 (l1 - 1)) ∧ (B 4 l0 5 (l1 - 1)) < K.2 1 then zbind (f_Event_has K (B 4 l0 5 (l1 - 1)) 1 F B) (fun r7 F7 B7 => if r32 r7 then (if r7 = 0 then f_Part_isTiedFrom_56 K F7 B7 else if 0 ≤ (B 4 l0 5 l1) ∧ (B 4 l0 5 l1) < K.2 1 then if 0 ≤ l2 ∧ l2 < 6 then if 0 ≤ (B7 4 l0 5 (l1 - 1)) ∧ (B7 4 l0 5 (l1 - 1)) < K.2 1 then zbind (f_Event_hasPitch K (B7 4 l0 5 (l1 - 1)) (B7 1 (B 4 l0 5 l1) 12 l2) (B7 1 (B 4 l0 5 l1) 13 l2) F7 B7) (fun r13 F13 B13 => if r32 r13 then (if r13 = 0 then f_Part_isTiedFrom_56 K F13 B13 else f_Part_isTiedFrom_57 K 1 F13 B13) else none) else none else none else none) else none) else none else none) else none else none else none
set_option maxHeartbeats 4000000 in
set_option maxRecDepth 100000 in
theorem c_Part_isTiedFrom {l : Launch} {D : va_G} {ca : Nat → ClassId} {ad : Nat → Int → Nat → Nat} {L : List Nat} {aS vS : Nat → Nat} {sz : Nat} {K : zK}  {l0 : Int} {l1 : Int} {l2 : Int} {F F9 : zF} {B B9 : zB} {r : Int} (hf : f_Part_isTiedFrom K l0 l1 l2 F B = some (r, F9, B9)) : Met l ({ cls := "StaveHouse$Part", name := "isTiedFrom", desc := "(II)Z" } : Jvm.MethodName) (Cond.code ({ cls := "StaveHouse$Part", name := "isTiedFrom", desc := "(II)Z" } : Jvm.MethodName) prog_6_method_8_code 4 (Option.some Jvm.ClassFile.FieldType.boolean) :: wAll) ({ frames := 1, cells := 0, slots := 0, locals := 23 } : Room) (va_Pc [.ref (ad 4 l0 0), .int (iI l1), .int (iI l2)] (zPre D ca ad lnC K.2 L aS vS F B sz)) (Q_Part_isTiedFrom K D ca ad L r F9 B9 (zA L sz)) 0 0 (zA L sz) := by
  refine zMet (Qc := Q_Part_isTiedFrom K D ca ad L r F9 B9) (lv := [(0, .ref (ad 4 l0 0)), (1, .int (iI l1)), (2, .int (iI l2))]) (by decide) (Nat.le_of_ble_eq_true rfl) rfl (fun A p e s m below meth c ls X hZ hS hl => ?_)
  obtain ⟨hx, hb, hr, hml, hown, hts, hlk, hK, hA, hL, hX⟩ := id X
  replace hf : (if 0 ≤ l0 ∧ l0 < K.2 4 then if 0 ≤ l1 ∧ l1 < 200 then if r32 l1 then (if l1 ≤ 0 then f_Part_isTiedFrom_56 K F B else if 0 ≤ (l1 - 1) ∧ (l1 - 1) < 200 then if 0 ≤ (B 4 l0 5 (l1 - 1)) ∧ (B 4 l0 5 (l1 - 1)) < K.2 1 then zbind (f_Event_has K (B 4 l0 5 (l1 - 1)) 1 F B) (fun r7 F7 B7 => if r32 r7 then (if r7 = 0 then f_Part_isTiedFrom_56 K F7 B7 else if 0 ≤ (B 4 l0 5 l1) ∧ (B 4 l0 5 l1) < K.2 1 then if 0 ≤ l2 ∧ l2 < 6 then if 0 ≤ (B7 4 l0 5 (l1 - 1)) ∧ (B7 4 l0 5 (l1 - 1)) < K.2 1 then zbind (f_Event_hasPitch K (B7 4 l0 5 (l1 - 1)) (B7 1 (B 4 l0 5 l1) 12 l2) (B7 1 (B 4 l0 5 l1) 13 l2) F7 B7) (fun r13 F13 B13 => if r32 r13 then (if r13 = 0 then f_Part_isTiedFrom_56 K F13 B13 else f_Part_isTiedFrom_57 K 1 F13 B13) else none) else none else none else none) else none) else none else none) else none else none else none) = some (r, F9, B9) := hf
  refine lv_aload_n hx hb (D_42 W_prog_6_method_8_code_0 0 rfl rfl) rfl (lv_at hl 0 rfl) ?_
  obtain ⟨g1, hf⟩ := gif hf
  refine zget (ci := 4) (C := RX4) (T := TX4) (v := .ref (ad 4 l0 (5 + 1))) (k := 5) hx hb hts inW_4 hown hK hZ g1.1 g1.2 rfl (by decide) k_4_130 rfl (D_180 W_prog_6_method_8_code_0 1 rfl rfl rfl) ?_
  refine lv_iload_n hx hb (D_27 W_prog_6_method_8_code_0 4 rfl rfl) rfl (lv_at hl 1 rfl) ?_
  obtain ⟨g2, hf⟩ := gif hf
  refine zaldR (t := 1) (x := 7) (ci := 4) (k := 5) hx hb hK rfl rfl hZ g1.1 g1.2 rfl (Nat.le_of_ble_eq_true rfl) g2.1 g2.2 (D_50 W_prog_6_method_8_code_0 5 rfl rfl) ?_
  refine zastore_n (lv' := [(0, .ref (ad 4 l0 0)), (1, .int (iI l1)), (2, .int (iI l2))]) hx hb (D_78 W_prog_6_method_8_code_0 6 rfl rfl) rfl hl (by decide) (fun _ _ => rfl) (fun ls hl => ?_)
  refine lv_iload_n hx hb (D_27 W_prog_6_method_8_code_0 7 rfl rfl) rfl (lv_at hl 2 rfl) ?_
  obtain ⟨g3, hf⟩ := gif hf
  refine z0le (tgt := 56) hx hb g3 (D_158 W_prog_6_method_8_code_0 8 rfl rfl rfl) (by decide) (fun h4 => ?_) (fun h4 => ?_)
  · replace hf := gpos hf h4
    exact b_Part_isTiedFrom_56 X hf hZ hS (lv_sub hl [] rfl)
  · replace hf := gneg hf h4
    refine lv_aload_n hx hb (D_42 W_prog_6_method_8_code_0 11 rfl rfl) rfl (lv_at hl 1 rfl) ?_
    refine zget (ci := 4) (C := RX4) (T := TX4) (v := .ref (ad 4 l0 (5 + 1))) (k := 5) hx hb hts inW_4 hown hK hZ g1.1 g1.2 rfl (by decide) k_4_130 rfl (D_180 W_prog_6_method_8_code_0 12 rfl rfl rfl) ?_
    refine lv_iload_n hx hb (D_27 W_prog_6_method_8_code_0 15 rfl rfl) rfl (lv_at hl 2 rfl) ?_
    refine lv_iconst (v := iI 1) hx hb (D_4 W_prog_6_method_8_code_0 16 rfl rfl) rfl ?_
    refine zsub hx hb (D_100 W_prog_6_method_8_code_0 17 rfl rfl) ?_
    obtain ⟨g5, hf⟩ := gif hf
    refine zaldR (t := 1) (x := 7) (ci := 4) (k := 5) hx hb hK rfl rfl hZ g1.1 g1.2 rfl (Nat.le_of_ble_eq_true rfl) g5.1 g5.2 (D_50 W_prog_6_method_8_code_0 18 rfl rfl) ?_
    refine lv_iconst (v := iI 1) hx hb (D_4 W_prog_6_method_8_code_0 19 rfl rfl) rfl ?_
    obtain ⟨g6, hf⟩ := gif hf
    refine W.eq (g2 := F0 m 20 ls [.int (iI 1), .ref (ad 1 (B 4 l0 5 (l1 - 1)) 0)]) (by rw [zrf_pos (ad := ad) (t := 1) g6.1]; try rfl) ?_
    obtain ⟨r7, F7, B7, hc7, hf⟩ := gbind hf
    refine va_calli (va_runV (As := [.int (iI 1)]) (rest := []) ⟨hx, hb, hml, hown, hts⟩ (c_Event_has (l := l) hc7) (cwV 1 hts (gdV k_5_15 k_5_16 k_5_17 k_1_8 k_5_18) rfl rfl rfl (by decide +kernel) ⟨Nat.le_of_ble_eq_true rfl, Nat.le_of_ble_eq_true rfl⟩) (zPV X hZ hS (ci := 1) g6.1 g6.2 (r := (RX1, TX1, 14)) rfl [.int (iI 1)]) rfl rfl hl.1 rfl (lv_room (Nat.le_of_ble_eq_true rfl)) (D_182 W_prog_6_method_8_code_0 20 rfl rfl rfl) ⟨Nat.le_of_ble_eq_true rfl, Nat.le_of_ble_eq_true rfl⟩) hS (fun q _ h => zAin X hS q h) (zAin X hS) (fun p7 u7 t7 H7 locs7 ht7 hv7 hw7 hB7 hz7 hk7 hS7 => ?_)
    have hZ7 := zBack X ht7 hB7
    subst hw7
    obtain ⟨g8, hf⟩ := gif hf
    refine z0eq (tgt := 56) hx hb g8 (D_153 W_prog_6_method_8_code_0 23 rfl rfl rfl) (by decide) (fun h9 => ?_) (fun h9 => ?_)
    · replace hf := gpos hf h9
      exact b_Part_isTiedFrom_56 X hf hZ7 hS7 (lv_sub hl [] rfl)
    · replace hf := gneg hf h9
      refine lv_aload_n hx hb (D_42 W_prog_6_method_8_code_0 26 rfl rfl) rfl (lv_at hl 1 rfl) ?_
      refine zget (ci := 4) (C := RX4) (T := TX4) (v := .ref (ad 4 l0 (5 + 1))) (k := 5) hx hb hts inW_4 hown hK hZ7 g1.1 g1.2 rfl (by decide) k_4_130 rfl (D_180 W_prog_6_method_8_code_0 27 rfl rfl rfl) ?_
      refine lv_iload_n hx hb (D_27 W_prog_6_method_8_code_0 30 rfl rfl) rfl (lv_at hl 2 rfl) ?_
      refine lv_iconst (v := iI 1) hx hb (D_4 W_prog_6_method_8_code_0 31 rfl rfl) rfl ?_
      refine zsub hx hb (D_100 W_prog_6_method_8_code_32 0 rfl rfl) ?_
      refine zaldR (t := 1) (x := 7) (ci := 4) (k := 5) hx hb hK rfl rfl hZ7 g1.1 g1.2 rfl (Nat.le_of_ble_eq_true rfl) g5.1 g5.2 (D_50 W_prog_6_method_8_code_32 1 rfl rfl) ?_
      refine zaload_n hx hb (D_45 W_prog_6_method_8_code_32 2 rfl rfl) rfl (lv_at hl 0 rfl) ?_
      obtain ⟨g10, hf⟩ := gif hf
      refine zunrf g10.1 ?_
      refine zget (ci := 1) (C := RX1) (T := TX1) (v := .ref (ad 1 (B 4 l0 5 l1) (12 + 1))) (k := 12) hx hb hts inW_1 hown hK hZ7 g10.1 g10.2 rfl (by decide) k_2_60 rfl (D_180 W_prog_6_method_8_code_32 3 rfl rfl rfl) ?_
      refine lv_iload_n hx hb (D_28 W_prog_6_method_8_code_32 6 rfl rfl) rfl (lv_at hl 3 rfl) ?_
      obtain ⟨g11, hf⟩ := gif hf
      refine zald (ci := 1) (k := 12) hx hb hK rfl hZ7 g10.1 g10.2 rfl (Nat.le_of_ble_eq_true rfl) g11.1 g11.2 (D_46 W_prog_6_method_8_code_32 7 rfl rfl) ?_
      refine zaload_n hx hb (D_45 W_prog_6_method_8_code_32 8 rfl rfl) rfl (lv_at hl 0 rfl) ?_
      refine zunrf g10.1 ?_
      refine zget (ci := 1) (C := RX1) (T := TX1) (v := .ref (ad 1 (B 4 l0 5 l1) (13 + 1))) (k := 13) hx hb hts inW_1 hown hK hZ7 g10.1 g10.2 rfl (by decide) k_2_65 rfl (D_180 W_prog_6_method_8_code_32 9 rfl rfl rfl) ?_
      refine lv_iload_n hx hb (D_28 W_prog_6_method_8_code_32 12 rfl rfl) rfl (lv_at hl 3 rfl) ?_
      refine zald (ci := 1) (k := 13) hx hb hK rfl hZ7 g10.1 g10.2 rfl (Nat.le_of_ble_eq_true rfl) g11.1 g11.2 (D_46 W_prog_6_method_8_code_32 13 rfl rfl) ?_
      obtain ⟨g12, hf⟩ := gif hf
      refine W.eq (g2 := F0 m 46 ls [.int (iI (B7 1 (B 4 l0 5 l1) 13 l2)), .int (iI (B7 1 (B 4 l0 5 l1) 12 l2)), .ref (ad 1 (B7 4 l0 5 (l1 - 1)) 0)]) (by rw [zrf_pos (ad := ad) (t := 1) g12.1]; try rfl) ?_
      obtain ⟨r13, F13, B13, hc13, hf⟩ := gbind hf
      refine va_calli (va_runV (As := [.int (iI (B7 1 (B 4 l0 5 l1) 12 l2)), .int (iI (B7 1 (B 4 l0 5 l1) 13 l2))]) (rest := []) ⟨hx, hb, hml, hown, hts⟩ (c_Event_hasPitch (l := l) hc13) (cwV 2 hts (gdV k_5_129 k_5_46 k_5_47 k_1_8 k_5_48) rfl rfl rfl (by decide +kernel) ⟨Nat.le_of_ble_eq_true rfl, Nat.le_of_ble_eq_true rfl⟩) (zPV X hZ7 hS7 (ci := 1) g12.1 g12.2 (r := (RX1, TX1, 14)) rfl [.int (iI (B7 1 (B 4 l0 5 l1) 12 l2)), .int (iI (B7 1 (B 4 l0 5 l1) 13 l2))]) rfl rfl hl.1 rfl (lv_room (Nat.le_of_ble_eq_true rfl)) (D_182 W_prog_6_method_8_code_32 14 rfl rfl rfl) ⟨Nat.le_of_ble_eq_true rfl, Nat.le_of_ble_eq_true rfl⟩) hS7 (fun q _ h => zAin X hS7 q h) (zAin X hS7) (fun p13 u13 t13 H13 locs13 ht13 hv13 hw13 hB13 hz13 hk13 hS13 => ?_)
      have hZ13 := zBack X ht13 hB13
      subst hw13
      obtain ⟨g14, hf⟩ := gif hf
      refine z0eq (tgt := 56) hx hb g14 (D_153 W_prog_6_method_8_code_32 17 rfl rfl rfl) (by decide) (fun h15 => ?_) (fun h15 => ?_)
      · replace hf := gpos hf h15
        exact b_Part_isTiedFrom_56 X hf hZ13 hS13 (lv_sub hl [] rfl)
      · replace hf := gneg hf h15
        refine lv_iconst (v := iI 1) hx hb (D_4 W_prog_6_method_8_code_32 20 rfl rfl) rfl ?_
        refine lv_goto (tgt := 57) hx hb (D_167 W_prog_6_method_8_code_32 21 rfl rfl rfl) (by decide) ?_
        exact b_Part_isTiedFrom_57 X hf hZ13 hS13 (lv_sub hl [] rfl)

abbrev Q_Part_greatestHeight (K : zK) (D : va_G) (ca : Nat → ClassId) (ad : Nat → Int → Nat → Nat) (L : List Nat) (r : Int) (F : zF) (B : zB) (A : Nat → Prop) : Array Value → State → Outcome → State → Prop := va_Qi (S := Unit) (fun p _ => p = iI r) (fun _ => zPo D ca ad lnC K.2 L F B A) A
def f_Part_greatestHeight (K : zK) (l0 : Int) (l1 : Int) (F : zF) (B : zB) : zO := if 0 ≤ l0 ∧ l0 < K.2 4 then if 0 ≤ l1 ∧ l1 < 800 then if 0 ≤ (B 4 l0 360 l1) ∧ (B 4 l0 360 l1) < 200 then if 0 ≤ (B 4 l0 5 (B 4 l0 360 l1)) ∧ (B 4 l0 5 (B 4 l0 360 l1)) < K.2 1 then if r32 ((F 1 (B 4 l0 5 (B 4 l0 360 l1)) 10) - 1) then if 0 ≤ (zmax ((F 1 (B 4 l0 5 (B 4 l0 360 l1)) 10) - 1) 0) ∧ (zmax ((F 1 (B 4 l0 5 (B 4 l0 360 l1)) 10) - 1) 0) < 6 then if 0 ≤ (F 4 l0 1) ∧ (F 4 l0 1) < ztl 8 then some ((B 1 (B 4 l0 5 (B 4 l0 360 l1)) 12 (zmax ((F 1 (B 4 l0 5 (B 4 l0 360 l1)) 10) - 1) 0)) - (ztv 8 (F 4 l0 1)), F, B) else none else none else none else none else none else none else none
set_option maxHeartbeats 4000000 in
set_option maxRecDepth 100000 in
theorem c_Part_greatestHeight {l : Launch} {D : va_G} {ca : Nat → ClassId} {ad : Nat → Int → Nat → Nat} {L : List Nat} {aS vS : Nat → Nat} {sz : Nat} {K : zK}  {l0 : Int} {l1 : Int} {F F9 : zF} {B B9 : zB} {r : Int} (hf : f_Part_greatestHeight K l0 l1 F B = some (r, F9, B9)) : Met l ({ cls := "StaveHouse$Part", name := "greatestHeight", desc := "(I)I" } : Jvm.MethodName) (Cond.code ({ cls := "StaveHouse$Part", name := "greatestHeight", desc := "(I)I" } : Jvm.MethodName) prog_6_method_20_code 3 (Option.some Jvm.ClassFile.FieldType.int) :: wAll) ({ frames := 1, cells := 0, slots := 0, locals := 14 } : Room) (va_Pc [.ref (ad 4 l0 0), .int (iI l1)] (zPre D ca ad lnC K.2 L aS vS F B sz)) (Q_Part_greatestHeight K D ca ad L r F9 B9 (zA L sz)) 0 0 (zA L sz) := by
  refine zMet (Qc := Q_Part_greatestHeight K D ca ad L r F9 B9) (lv := [(0, .ref (ad 4 l0 0)), (1, .int (iI l1))]) (by decide) (Nat.le_of_ble_eq_true rfl) rfl (fun A p e s m below meth c ls X hZ hS hl => ?_)
  obtain ⟨hx, hb, hr, hml, hown, hts, hlk, hK, hA, hL, hX⟩ := id X
  replace hf : (if 0 ≤ l0 ∧ l0 < K.2 4 then if 0 ≤ l1 ∧ l1 < 800 then if 0 ≤ (B 4 l0 360 l1) ∧ (B 4 l0 360 l1) < 200 then if 0 ≤ (B 4 l0 5 (B 4 l0 360 l1)) ∧ (B 4 l0 5 (B 4 l0 360 l1)) < K.2 1 then if r32 ((F 1 (B 4 l0 5 (B 4 l0 360 l1)) 10) - 1) then if 0 ≤ (zmax ((F 1 (B 4 l0 5 (B 4 l0 360 l1)) 10) - 1) 0) ∧ (zmax ((F 1 (B 4 l0 5 (B 4 l0 360 l1)) 10) - 1) 0) < 6 then if 0 ≤ (F 4 l0 1) ∧ (F 4 l0 1) < ztl 8 then some ((B 1 (B 4 l0 5 (B 4 l0 360 l1)) 12 (zmax ((F 1 (B 4 l0 5 (B 4 l0 360 l1)) 10) - 1) 0)) - (ztv 8 (F 4 l0 1)), F, B) else none else none else none else none else none else none else none) = some (r, F9, B9) := hf
  refine lv_aload_n hx hb (D_42 W_prog_6_method_20_code_0 0 rfl rfl) rfl (lv_at hl 0 rfl) ?_
  obtain ⟨g1, hf⟩ := gif hf
  refine zget (ci := 4) (C := RX4) (T := TX4) (v := .ref (ad 4 l0 (5 + 1))) (k := 5) hx hb hts inW_4 hown hK hZ g1.1 g1.2 rfl (by decide) k_4_130 rfl (D_180 W_prog_6_method_20_code_0 1 rfl rfl rfl) ?_
  refine lv_aload_n hx hb (D_42 W_prog_6_method_20_code_0 4 rfl rfl) rfl (lv_at hl 0 rfl) ?_
  refine zget (ci := 4) (C := RX4) (T := TX4) (v := .ref (ad 4 l0 (8 + 1))) (k := 8) hx hb hts inW_4 hown hK hZ g1.1 g1.2 rfl (by decide) k_4_142 rfl (D_180 W_prog_6_method_20_code_0 5 rfl rfl rfl) ?_
  refine lv_iconst (v := iI 0) hx hb (D_3 W_prog_6_method_20_code_0 8 rfl rfl) rfl ?_
  refine zaldQ (t := 0) (ci := 4) (k := 8) hx hb hK rfl hZ g1.1 g1.2 rfl (Nat.le_of_ble_eq_true rfl) (by decide) (by decide) (D_50 W_prog_6_method_20_code_0 9 rfl rfl) ?_
  refine W.eq (g2 := F0 m 10 ls [.ref (ad 4 l0 (360 + 1)), .ref (ad 4 l0 (5 + 1))]) rfl ?_
  refine lv_iload_n hx hb (D_27 W_prog_6_method_20_code_0 10 rfl rfl) rfl (lv_at hl 1 rfl) ?_
  obtain ⟨g2, hf⟩ := gif hf
  refine zald (ci := 4) (k := 360) hx hb hK rfl hZ g1.1 g1.2 rfl (Nat.le_of_ble_eq_true rfl) g2.1 g2.2 (D_46 W_prog_6_method_20_code_0 11 rfl rfl) ?_
  obtain ⟨g3, hf⟩ := gif hf
  refine zaldR (t := 1) (x := 7) (ci := 4) (k := 5) hx hb hK rfl rfl hZ g1.1 g1.2 rfl (Nat.le_of_ble_eq_true rfl) g3.1 g3.2 (D_50 W_prog_6_method_20_code_0 12 rfl rfl) ?_
  refine zastore_n (lv' := [(0, .ref (ad 4 l0 0)), (1, .int (iI l1))]) hx hb (D_77 W_prog_6_method_20_code_0 13 rfl rfl) rfl hl (by decide) (fun _ _ => rfl) (fun ls hl => ?_)
  refine zaload_n hx hb (D_44 W_prog_6_method_20_code_0 14 rfl rfl) rfl (lv_at hl 0 rfl) ?_
  obtain ⟨g4, hf⟩ := gif hf
  refine zunrf g4.1 ?_
  refine zget (ci := 1) (C := RX1) (T := TX1) (v := .ref (ad 1 (B 4 l0 5 (B 4 l0 360 l1)) (12 + 1))) (k := 12) hx hb hts inW_1 hown hK hZ g4.1 g4.2 rfl (by decide) k_2_60 rfl (D_180 W_prog_6_method_20_code_0 15 rfl rfl rfl) ?_
  refine zaload_n hx hb (D_44 W_prog_6_method_20_code_0 18 rfl rfl) rfl (lv_at hl 0 rfl) ?_
  refine zunrf g4.1 ?_
  refine zget (ci := 1) (C := RX1) (T := TX1) (v := .int (iI (F 1 (B 4 l0 5 (B 4 l0 360 l1)) 10))) (k := 10) hx hb hts inW_1 hown hK hZ g4.1 g4.2 rfl (by decide) k_2_54 rfl (D_180 W_prog_6_method_20_code_0 19 rfl rfl rfl) ?_
  refine lv_iconst (v := iI 1) hx hb (D_4 W_prog_6_method_20_code_0 22 rfl rfl) rfl ?_
  refine zsub hx hb (D_100 W_prog_6_method_20_code_0 23 rfl rfl) ?_
  refine lv_iconst (v := iI 0) hx hb (D_3 W_prog_6_method_20_code_0 24 rfl rfl) rfl ?_
  obtain ⟨g5, hf⟩ := gif hf
  refine va_mmax hx hb (by rw [hml]; exact hl.1.symm) hown (hts _ k_5_77) (hts _ k_1_39) (hts _ k_1_3) (hts _ k_1_40) (Nat.le_of_ble_eq_true rfl) (Nat.le_of_ble_eq_true rfl) (Nat.le_of_ble_eq_true rfl) (Nat.le_of_ble_eq_true rfl) (D_184 W_prog_6_method_20_code_0 25 rfl rfl rfl) ?_
  rw [zmax_e g5 (by decide)]
  obtain ⟨g6, hf⟩ := gif hf
  refine zald (ci := 1) (k := 12) hx hb hK rfl hZ g4.1 g4.2 rfl (Nat.le_of_ble_eq_true rfl) g6.1 g6.2 (D_46 W_prog_6_method_20_code_0 28 rfl rfl) ?_
  refine va_gets hx hb (hX.2.2.2.2.2.2 8 _ rfl).1 hS hown (hts _ k_5_138) (fun _ h => h) (D_178 W_prog_6_method_20_code_0 29 rfl rfl rfl) ?_
  refine W.eq (g2 := F0 m 32 ls [.ref (vS (1000 + 8)), .int (iI (B 1 (B 4 l0 5 (B 4 l0 360 l1)) 12 (zmax ((F 1 (B 4 l0 5 (B 4 l0 360 l1)) 10) - 1) 0)))]) rfl ?_
  refine lv_aload_n hx hb (D_42 W_prog_6_method_20_code_32 0 rfl rfl) rfl (lv_at hl 1 rfl) ?_
  refine zget (ci := 4) (C := RX4) (T := TX4) (v := .int (iI (F 4 l0 1))) (k := 1) hx hb hts inW_4 hown hK hZ g1.1 g1.2 rfl (by decide) k_4_121 rfl (D_180 W_prog_6_method_20_code_32 1 rfl rfl rfl) ?_
  obtain ⟨g7, hf⟩ := gif hf
  refine va_ti (v := .int (iI (ztv 8 (F 4 l0 1)))) hx hb (ztI hX (by decide) (by decide)) hS (zt_in (by decide) g7) (ztI_v (by decide) g7) (D_46 W_prog_6_method_20_code_32 4 rfl rfl) ?_
  refine zsub hx hb (D_100 W_prog_6_method_20_code_32 5 rfl rfl) ?_
  cases hf
  exact W.iret hx hb hr (fun t ht hW => ⟨⟨_, (), rfl, rfl, by rw [ht]; exact hZ, va_K.moved hW.alike hK⟩, hS.F ht⟩) hS.2.2 (D_172 W_prog_6_method_20_code_32 6 rfl rfl) hlk

abbrev Q_Part_leastHeight (K : zK) (D : va_G) (ca : Nat → ClassId) (ad : Nat → Int → Nat → Nat) (L : List Nat) (r : Int) (F : zF) (B : zB) (A : Nat → Prop) : Array Value → State → Outcome → State → Prop := va_Qi (S := Unit) (fun p _ => p = iI r) (fun _ => zPo D ca ad lnC K.2 L F B A) A
def f_Part_leastHeight (K : zK) (l0 : Int) (l1 : Int) (F : zF) (B : zB) : zO := if 0 ≤ l0 ∧ l0 < K.2 4 then if 0 ≤ l1 ∧ l1 < 800 then if 0 ≤ (B 4 l0 360 l1) ∧ (B 4 l0 360 l1) < 200 then if 0 ≤ (B 4 l0 5 (B 4 l0 360 l1)) ∧ (B 4 l0 5 (B 4 l0 360 l1)) < K.2 1 then if 0 ≤ (F 4 l0 1) ∧ (F 4 l0 1) < ztl 8 then some ((B 1 (B 4 l0 5 (B 4 l0 360 l1)) 12 0) - (ztv 8 (F 4 l0 1)), F, B) else none else none else none else none else none
set_option maxHeartbeats 4000000 in
set_option maxRecDepth 100000 in
theorem c_Part_leastHeight {l : Launch} {D : va_G} {ca : Nat → ClassId} {ad : Nat → Int → Nat → Nat} {L : List Nat} {aS vS : Nat → Nat} {sz : Nat} {K : zK}  {l0 : Int} {l1 : Int} {F F9 : zF} {B B9 : zB} {r : Int} (hf : f_Part_leastHeight K l0 l1 F B = some (r, F9, B9)) : Met l ({ cls := "StaveHouse$Part", name := "leastHeight", desc := "(I)I" } : Jvm.MethodName) (Cond.code ({ cls := "StaveHouse$Part", name := "leastHeight", desc := "(I)I" } : Jvm.MethodName) prog_6_method_19_code 2 (Option.some Jvm.ClassFile.FieldType.int) :: wAll) ({ frames := 0, cells := 0, slots := 0, locals := 0 } : Room) (va_Pc [.ref (ad 4 l0 0), .int (iI l1)] (zPre D ca ad lnC K.2 L aS vS F B sz)) (Q_Part_leastHeight K D ca ad L r F9 B9 (zA L sz)) 0 0 (zA L sz) := by
  refine zMet (Qc := Q_Part_leastHeight K D ca ad L r F9 B9) (lv := [(0, .ref (ad 4 l0 0)), (1, .int (iI l1))]) (by decide) (Nat.le_of_ble_eq_true rfl) rfl (fun A p e s m below meth c ls X hZ hS hl => ?_)
  obtain ⟨hx, hb, hr, hml, hown, hts, hlk, hK, hA, hL, hX⟩ := id X
  replace hf : (if 0 ≤ l0 ∧ l0 < K.2 4 then if 0 ≤ l1 ∧ l1 < 800 then if 0 ≤ (B 4 l0 360 l1) ∧ (B 4 l0 360 l1) < 200 then if 0 ≤ (B 4 l0 5 (B 4 l0 360 l1)) ∧ (B 4 l0 5 (B 4 l0 360 l1)) < K.2 1 then if 0 ≤ (F 4 l0 1) ∧ (F 4 l0 1) < ztl 8 then some ((B 1 (B 4 l0 5 (B 4 l0 360 l1)) 12 0) - (ztv 8 (F 4 l0 1)), F, B) else none else none else none else none else none) = some (r, F9, B9) := hf
  refine lv_aload_n hx hb (D_42 W_prog_6_method_19_code_0 0 rfl rfl) rfl (lv_at hl 0 rfl) ?_
  obtain ⟨g1, hf⟩ := gif hf
  refine zget (ci := 4) (C := RX4) (T := TX4) (v := .ref (ad 4 l0 (5 + 1))) (k := 5) hx hb hts inW_4 hown hK hZ g1.1 g1.2 rfl (by decide) k_4_130 rfl (D_180 W_prog_6_method_19_code_0 1 rfl rfl rfl) ?_
  refine lv_aload_n hx hb (D_42 W_prog_6_method_19_code_0 4 rfl rfl) rfl (lv_at hl 0 rfl) ?_
  refine zget (ci := 4) (C := RX4) (T := TX4) (v := .ref (ad 4 l0 (8 + 1))) (k := 8) hx hb hts inW_4 hown hK hZ g1.1 g1.2 rfl (by decide) k_4_142 rfl (D_180 W_prog_6_method_19_code_0 5 rfl rfl rfl) ?_
  refine lv_iconst (v := iI 0) hx hb (D_3 W_prog_6_method_19_code_0 8 rfl rfl) rfl ?_
  refine zaldQ (t := 0) (ci := 4) (k := 8) hx hb hK rfl hZ g1.1 g1.2 rfl (Nat.le_of_ble_eq_true rfl) (by decide) (by decide) (D_50 W_prog_6_method_19_code_0 9 rfl rfl) ?_
  refine W.eq (g2 := F0 m 10 ls [.ref (ad 4 l0 (360 + 1)), .ref (ad 4 l0 (5 + 1))]) rfl ?_
  refine lv_iload_n hx hb (D_27 W_prog_6_method_19_code_0 10 rfl rfl) rfl (lv_at hl 1 rfl) ?_
  obtain ⟨g2, hf⟩ := gif hf
  refine zald (ci := 4) (k := 360) hx hb hK rfl hZ g1.1 g1.2 rfl (Nat.le_of_ble_eq_true rfl) g2.1 g2.2 (D_46 W_prog_6_method_19_code_0 11 rfl rfl) ?_
  obtain ⟨g3, hf⟩ := gif hf
  refine zaldR (t := 1) (x := 7) (ci := 4) (k := 5) hx hb hK rfl rfl hZ g1.1 g1.2 rfl (Nat.le_of_ble_eq_true rfl) g3.1 g3.2 (D_50 W_prog_6_method_19_code_0 12 rfl rfl) ?_
  obtain ⟨g4, hf⟩ := gif hf
  refine zunrf g4.1 ?_
  refine zget (ci := 1) (C := RX1) (T := TX1) (v := .ref (ad 1 (B 4 l0 5 (B 4 l0 360 l1)) (12 + 1))) (k := 12) hx hb hts inW_1 hown hK hZ g4.1 g4.2 rfl (by decide) k_2_60 rfl (D_180 W_prog_6_method_19_code_0 13 rfl rfl rfl) ?_
  refine lv_iconst (v := iI 0) hx hb (D_3 W_prog_6_method_19_code_0 16 rfl rfl) rfl ?_
  refine zald (ci := 1) (k := 12) hx hb hK rfl hZ g4.1 g4.2 rfl (Nat.le_of_ble_eq_true rfl) (by decide) (show (0 : Int) < 6 by decide) (D_46 W_prog_6_method_19_code_0 17 rfl rfl) ?_
  refine va_gets hx hb (hX.2.2.2.2.2.2 8 _ rfl).1 hS hown (hts _ k_5_138) (fun _ h => h) (D_178 W_prog_6_method_19_code_0 18 rfl rfl rfl) ?_
  refine W.eq (g2 := F0 m 21 ls [.ref (vS (1000 + 8)), .int (iI (B 1 (B 4 l0 5 (B 4 l0 360 l1)) 12 0))]) rfl ?_
  refine lv_aload_n hx hb (D_42 W_prog_6_method_19_code_0 21 rfl rfl) rfl (lv_at hl 0 rfl) ?_
  refine zget (ci := 4) (C := RX4) (T := TX4) (v := .int (iI (F 4 l0 1))) (k := 1) hx hb hts inW_4 hown hK hZ g1.1 g1.2 rfl (by decide) k_4_121 rfl (D_180 W_prog_6_method_19_code_0 22 rfl rfl rfl) ?_
  obtain ⟨g5, hf⟩ := gif hf
  refine va_ti (v := .int (iI (ztv 8 (F 4 l0 1)))) hx hb (ztI hX (by decide) (by decide)) hS (zt_in (by decide) g5) (ztI_v (by decide) g5) (D_46 W_prog_6_method_19_code_0 25 rfl rfl) ?_
  refine zsub hx hb (D_100 W_prog_6_method_19_code_0 26 rfl rfl) ?_
  cases hf
  exact W.iret hx hb hr (fun t ht hW => ⟨⟨_, (), rfl, rfl, by rw [ht]; exact hZ, va_K.moved hW.alike hK⟩, hS.F ht⟩) hS.2.2 (D_172 W_prog_6_method_19_code_0 27 rfl rfl) hlk

abbrev Q_Piece_beatLength (K : zK) (D : va_G) (ca : Nat → ClassId) (ad : Nat → Int → Nat → Nat) (L : List Nat) (r : Int) (F : zF) (B : zB) (A : Nat → Prop) : Array Value → State → Outcome → State → Prop := va_Ql (S := Unit) (fun p _ => p = lI r) (fun _ => zPo D ca ad lnC K.2 L F B A) A
def f_Piece_beatLength (K : zK) (l0 : Int) (F : zF) (B : zB) : zO := if 0 ≤ l0 ∧ l0 < K.2 6 then if r32 (F 6 l0 5) then if r32 (zmax (F 6 l0 5) 1) then if ¬ lI (zmax (F 6 l0 5) 1) = 0 then zbind (f_S_beatCount K (F 6 l0 4) (F 6 l0 5) F B) (fun r5 F5 B5 => if r32 r5 then some ((zldv 812851200 (zmax (F 6 l0 5) 1)) * r5, F5, B5) else none) else none else none else none else none
set_option maxHeartbeats 4000000 in
set_option maxRecDepth 100000 in
theorem c_Piece_beatLength {l : Launch} {D : va_G} {ca : Nat → ClassId} {ad : Nat → Int → Nat → Nat} {L : List Nat} {aS vS : Nat → Nat} {sz : Nat} {K : zK}  {l0 : Int} {F F9 : zF} {B B9 : zB} {r : Int} (hf : f_Piece_beatLength K l0 F B = some (r, F9, B9)) : Met l ({ cls := "StaveHouse$Piece", name := "beatLength", desc := "()J" } : Jvm.MethodName) (Cond.code ({ cls := "StaveHouse$Piece", name := "beatLength", desc := "()J" } : Jvm.MethodName) prog_8_method_6_code 1 (Option.some Jvm.ClassFile.FieldType.long) :: wAll) ({ frames := 1, cells := 0, slots := 0, locals := 21 } : Room) (va_Pc [.ref (ad 6 l0 0)] (zPre D ca ad lnC K.2 L aS vS F B sz)) (Q_Piece_beatLength K D ca ad L r F9 B9 (zA L sz)) 0 0 (zA L sz) := by
  refine zMet (Qc := Q_Piece_beatLength K D ca ad L r F9 B9) (lv := [(0, .ref (ad 6 l0 0))]) (by decide) (Nat.le_of_ble_eq_true rfl) rfl (fun A p e s m below meth c ls X hZ hS hl => ?_)
  obtain ⟨hx, hb, hr, hml, hown, hts, hlk, hK, hA, hL, hX⟩ := id X
  replace hf : (if 0 ≤ l0 ∧ l0 < K.2 6 then if r32 (F 6 l0 5) then if r32 (zmax (F 6 l0 5) 1) then if ¬ lI (zmax (F 6 l0 5) 1) = 0 then zbind (f_S_beatCount K (F 6 l0 4) (F 6 l0 5) F B) (fun r5 F5 B5 => if r32 r5 then some ((zldv 812851200 (zmax (F 6 l0 5) 1)) * r5, F5, B5) else none) else none else none else none else none) = some (r, F9, B9) := hf
  refine lv_ldc2 hx hb hown (hts _ k_4_193) (D_20 W_prog_8_method_6_code_0 0 rfl rfl rfl) ?_
  refine W.eq (g2 := F0 m 3 ls [.long (lI 812851200)]) rfl ?_
  refine lv_aload_n hx hb (D_42 W_prog_8_method_6_code_0 3 rfl rfl) rfl (lv_at hl 0 rfl) ?_
  obtain ⟨g1, hf⟩ := gif hf
  refine zget (ci := 6) (C := RX6) (T := TX6) (v := .int (iI (F 6 l0 5))) (k := 5) hx hb hts inW_6 hown hK hZ g1.1 g1.2 rfl (by decide) k_2_212 rfl (D_180 W_prog_8_method_6_code_0 4 rfl rfl rfl) ?_
  refine lv_iconst (v := iI 1) hx hb (D_4 W_prog_8_method_6_code_0 7 rfl rfl) rfl ?_
  obtain ⟨g2, hf⟩ := gif hf
  refine va_mmax hx hb (by rw [hml]; exact hl.1.symm) hown (hts _ k_4_194) (hts _ k_1_39) (hts _ k_1_3) (hts _ k_1_40) (Nat.le_of_ble_eq_true rfl) (Nat.le_of_ble_eq_true rfl) (Nat.le_of_ble_eq_true rfl) (Nat.le_of_ble_eq_true rfl) (D_184 W_prog_8_method_6_code_0 8 rfl rfl rfl) ?_
  rw [zmax_e g2 (by decide)]
  obtain ⟨g3, hf⟩ := gif hf
  refine zi2l hx hb g3 (D_133 W_prog_8_method_6_code_0 11 rfl rfl) ?_
  obtain ⟨g4, hf⟩ := gif hf
  refine zldv_r hx hb g4 (D_109 W_prog_8_method_6_code_0 12 rfl rfl) ?_
  refine lv_aload_n hx hb (D_42 W_prog_8_method_6_code_0 13 rfl rfl) rfl (lv_at hl 0 rfl) ?_
  refine zget (ci := 6) (C := RX6) (T := TX6) (v := .int (iI (F 6 l0 4))) (k := 4) hx hb hts inW_6 hown hK hZ g1.1 g1.2 rfl (by decide) k_2_207 rfl (D_180 W_prog_8_method_6_code_0 14 rfl rfl rfl) ?_
  refine lv_aload_n hx hb (D_42 W_prog_8_method_6_code_0 17 rfl rfl) rfl (lv_at hl 0 rfl) ?_
  refine zget (ci := 6) (C := RX6) (T := TX6) (v := .int (iI (F 6 l0 5))) (k := 5) hx hb hts inW_6 hown hK hZ g1.1 g1.2 rfl (by decide) k_2_212 rfl (D_180 W_prog_8_method_6_code_0 18 rfl rfl rfl) ?_
  obtain ⟨r5, F5, B5, hc5, hf⟩ := gbind hf
  refine va_calli (va_runSN (As := [.int (iI (F 6 l0 4)), .int (iI (F 6 l0 5))]) (rest := [.long (lI (zldv 812851200 (zmax (F 6 l0 5) 1)))]) ⟨hx, hb, hml, hown, hts⟩ (c_S_beatCount (l := l) hc5) ⟨va_cnB 2 hts (gdC k_5_92) rfl rfl rfl (hX.1 _ (List.mem_of_getElem? (i := 18) rfl) :) (hts _ k_1_1) (by decide +kernel) ⟨Nat.le_of_ble_eq_true rfl, Nat.le_of_ble_eq_true rfl⟩, hts _ k_5_91, trivial⟩ (zPS X hZ hS [.int (iI (F 6 l0 4)), .int (iI (F 6 l0 5))]) rfl rfl hl.1 rfl (lv_room (Nat.le_of_ble_eq_true rfl)) (D_184 W_prog_8_method_6_code_0 21 rfl rfl rfl) ⟨Nat.le_of_ble_eq_true rfl, Nat.le_of_ble_eq_true rfl⟩) hS (fun q _ h => zAin X hS q h) (zAin X hS) (fun p5 u5 t5 H5 locs5 ht5 hv5 hw5 hB5 hz5 hk5 hS5 => ?_)
  have hZ5 := zBack X ht5 hB5
  subst hw5
  obtain ⟨g6, hf⟩ := gif hf
  refine zi2l hx hb g6 (D_133 W_prog_8_method_6_code_0 24 rfl rfl) ?_
  refine zlmul hx hb (D_105 W_prog_8_method_6_code_0 25 rfl rfl) ?_
  cases hf
  exact W.lret hx hb hr (fun t ht hW => ⟨⟨_, (), rfl, rfl, by rw [ht]; exact hZ5, va_K.moved hW.alike hK⟩, hS5.F ht⟩) hS5.2.2 (D_173 W_prog_8_method_6_code_0 26 rfl rfl) hlk

abbrev Q_Part_isBeamed (K : zK) (D : va_G) (ca : Nat → ClassId) (ad : Nat → Int → Nat → Nat) (L : List Nat) (r : Int) (F : zF) (B : zB) (A : Nat → Prop) : Array Value → State → Outcome → State → Prop := va_Qi (S := Unit) (fun p _ => p = iI r) (fun _ => zPo D ca ad lnC K.2 L F B A) A
def f_Part_isBeamed_25 (K : zK) (s0 : Int) (F : zF) (B : zB) : zO := if (s0 = 0 ∨ s0 = 1) then some (s0, F, B) else none
set_option maxHeartbeats 4000000 in
set_option maxRecDepth 100000 in
theorem b_Part_isBeamed_25 {D : va_G} {ca : Nat → ClassId} {ad : Nat → Int → Nat → Nat} {L : List Nat} {aS vS : Nat → Nat} {A : Nat → Prop} {p : Program} {l : Launch} {e : Env} {s : State} {m : MethodId} {args : Array Value} {below : List Frame} {meth : Method} {c : Code} {K : zK} {r : Int} {F9 : zF} {B9 : zB} (X : zX D ca L aS vS A p s m args meth c prog_6_method_22_code 2 (Option.some Jvm.ClassFile.FieldType.boolean) "StaveHouse$Part") {s0 : Int} {F : zF} {B : zB} {H : Heap} {locs : List Loc} {ls : Array Slot} (hf : f_Part_isBeamed_25 K s0 F B = some (r, F9, B9)) (hZ : zH D ca ad lnC K.2 L F B A H) (hS : va_S A s.heap H locs) (hl : lv_has ls 2 []) : W p l e ({ frames := 1, cells := 0, slots := 0, locals := 22 } : Room) s m args below meth c H locs 0 0 (MQ below (Q_Part_isBeamed K D ca ad L r F9 B9 A) args s 0 0 A) (F0 m 25 ls [.int (iI s0)]) := by
  obtain ⟨hx, hb, hr, hml, hown, hts, hlk, hK, hA, hL, hX⟩ := id X
  replace hf : (if (s0 = 0 ∨ s0 = 1) then some (s0, F, B) else none) = some (r, F9, B9) := hf
  obtain ⟨g8, hf⟩ := gif hf
  cases hf
  exact W.zret hx hb hr (zbool g8) (fun t ht hW => ⟨⟨_, (), rfl, rfl, by rw [ht]; exact hZ, va_K.moved hW.alike hK⟩, hS.F ht⟩) hS.2.2 (D_172 W_prog_6_method_22_code_0 25 rfl rfl) hlk

def f_Part_isBeamed_24 (K : zK)  (F : zF) (B : zB) : zO := f_Part_isBeamed_25 K 0 F B
set_option maxHeartbeats 4000000 in
set_option maxRecDepth 100000 in
theorem b_Part_isBeamed_24 {D : va_G} {ca : Nat → ClassId} {ad : Nat → Int → Nat → Nat} {L : List Nat} {aS vS : Nat → Nat} {A : Nat → Prop} {p : Program} {l : Launch} {e : Env} {s : State} {m : MethodId} {args : Array Value} {below : List Frame} {meth : Method} {c : Code} {K : zK} {r : Int} {F9 : zF} {B9 : zB} (X : zX D ca L aS vS A p s m args meth c prog_6_method_22_code 2 (Option.some Jvm.ClassFile.FieldType.boolean) "StaveHouse$Part")  {F : zF} {B : zB} {H : Heap} {locs : List Loc} {ls : Array Slot} (hf : f_Part_isBeamed_24 K  F B = some (r, F9, B9)) (hZ : zH D ca ad lnC K.2 L F B A H) (hS : va_S A s.heap H locs) (hl : lv_has ls 2 []) : W p l e ({ frames := 1, cells := 0, slots := 0, locals := 22 } : Room) s m args below meth c H locs 0 0 (MQ below (Q_Part_isBeamed K D ca ad L r F9 B9 A) args s 0 0 A) (F0 m 24 ls []) := by
  obtain ⟨hx, hb, hr, hml, hown, hts, hlk, hK, hA, hL, hX⟩ := id X
  replace hf : (f_Part_isBeamed_25 K 0 F B) = some (r, F9, B9) := hf
  refine lv_iconst (v := iI 0) hx hb (D_3 W_prog_6_method_22_code_0 24 rfl rfl) rfl ?_
  exact b_Part_isBeamed_25 X hf hZ hS (lv_sub hl [] rfl)

def f_Part_isBeamed (K : zK) (l0 : Int) (l1 : Int) (F : zF) (B : zB) : zO := if 0 ≤ l0 ∧ l0 < K.2 4 then zbind (f_Part_isRestNote K l0 l1 F B) (fun r2 F2 B2 => if r32 r2 then (if r2 = 0 then if 0 ≤ l1 ∧ l1 < 800 then if r32 (B2 4 l0 364 l1) then (if (B2 4 l0 364 l1) < 3 then f_Part_isBeamed_24 K F2 B2 else f_Part_isBeamed_25 K 1 F2 B2) else none else none else f_Part_isBeamed_24 K F2 B2) else none) else none
set_option maxHeartbeats 4000000 in
set_option maxRecDepth 100000 in
theorem c_Part_isBeamed {l : Launch} {D : va_G} {ca : Nat → ClassId} {ad : Nat → Int → Nat → Nat} {L : List Nat} {aS vS : Nat → Nat} {sz : Nat} {K : zK}  {l0 : Int} {l1 : Int} {F F9 : zF} {B B9 : zB} {r : Int} (hf : f_Part_isBeamed K l0 l1 F B = some (r, F9, B9)) : Met l ({ cls := "StaveHouse$Part", name := "isBeamed", desc := "(I)Z" } : Jvm.MethodName) (Cond.code ({ cls := "StaveHouse$Part", name := "isBeamed", desc := "(I)Z" } : Jvm.MethodName) prog_6_method_22_code 2 (Option.some Jvm.ClassFile.FieldType.boolean) :: wAll) ({ frames := 1, cells := 0, slots := 0, locals := 22 } : Room) (va_Pc [.ref (ad 4 l0 0), .int (iI l1)] (zPre D ca ad lnC K.2 L aS vS F B sz)) (Q_Part_isBeamed K D ca ad L r F9 B9 (zA L sz)) 0 0 (zA L sz) := by
  refine zMet (Qc := Q_Part_isBeamed K D ca ad L r F9 B9) (lv := [(0, .ref (ad 4 l0 0)), (1, .int (iI l1))]) (by decide) (Nat.le_of_ble_eq_true rfl) rfl (fun A p e s m below meth c ls X hZ hS hl => ?_)
  obtain ⟨hx, hb, hr, hml, hown, hts, hlk, hK, hA, hL, hX⟩ := id X
  replace hf : (if 0 ≤ l0 ∧ l0 < K.2 4 then zbind (f_Part_isRestNote K l0 l1 F B) (fun r2 F2 B2 => if r32 r2 then (if r2 = 0 then if 0 ≤ l1 ∧ l1 < 800 then if r32 (B2 4 l0 364 l1) then (if (B2 4 l0 364 l1) < 3 then f_Part_isBeamed_24 K F2 B2 else f_Part_isBeamed_25 K 1 F2 B2) else none else none else f_Part_isBeamed_24 K F2 B2) else none) else none) = some (r, F9, B9) := hf
  refine lv_aload_n hx hb (D_42 W_prog_6_method_22_code_0 0 rfl rfl) rfl (lv_at hl 0 rfl) ?_
  refine lv_iload_n hx hb (D_27 W_prog_6_method_22_code_0 1 rfl rfl) rfl (lv_at hl 1 rfl) ?_
  obtain ⟨g1, hf⟩ := gif hf
  obtain ⟨r2, F2, B2, hc2, hf⟩ := gbind hf
  refine va_calli (va_runV (As := [.int (iI l1)]) (rest := []) ⟨hx, hb, hml, hown, hts⟩ (c_Part_isRestNote (l := l) hc2) (cwV 1 hts (gdV k_5_104 k_5_106 ks_54 k_1_18 k_5_107) rfl rfl rfl (by decide +kernel) ⟨Nat.le_of_ble_eq_true rfl, Nat.le_of_ble_eq_true rfl⟩) (zPV X hZ hS (ci := 4) g1.1 g1.2 (r := (RX4, TX4, 13)) rfl [.int (iI l1)]) rfl rfl hl.1 rfl (lv_room (Nat.le_of_ble_eq_true rfl)) (D_182 W_prog_6_method_22_code_0 2 rfl rfl rfl) ⟨Nat.le_of_ble_eq_true rfl, Nat.le_of_ble_eq_true rfl⟩) hS (fun q _ h => zAin X hS q h) (zAin X hS) (fun p2 u2 t2 H2 locs2 ht2 hv2 hw2 hB2 hz2 hk2 hS2 => ?_)
  have hZ2 := zBack X ht2 hB2
  subst hw2
  obtain ⟨g3, hf⟩ := gif hf
  refine z0ne (tgt := 24) hx hb g3 (D_154 W_prog_6_method_22_code_0 5 rfl rfl rfl) (by decide) (fun h4 => ?_) (fun h4 => ?_)
  · replace hf := gneg hf h4
    exact b_Part_isBeamed_24 X hf hZ2 hS2 (lv_sub hl [] rfl)
  · replace hf := gpos hf h4
    refine lv_aload_n hx hb (D_42 W_prog_6_method_22_code_0 8 rfl rfl) rfl (lv_at hl 0 rfl) ?_
    refine zget (ci := 4) (C := RX4) (T := TX4) (v := .ref (ad 4 l0 (8 + 1))) (k := 8) hx hb hts inW_4 hown hK hZ2 g1.1 g1.2 rfl (by decide) k_4_142 rfl (D_180 W_prog_6_method_22_code_0 9 rfl rfl rfl) ?_
    refine lv_iconst (v := iI 4) hx hb (D_7 W_prog_6_method_22_code_0 12 rfl rfl) rfl ?_
    refine zaldQ (t := 0) (ci := 4) (k := 8) hx hb hK rfl hZ2 g1.1 g1.2 rfl (Nat.le_of_ble_eq_true rfl) (by decide) (by decide) (D_50 W_prog_6_method_22_code_0 13 rfl rfl) ?_
    refine W.eq (g2 := F0 m 14 ls [.ref (ad 4 l0 (364 + 1))]) rfl ?_
    refine lv_iload_n hx hb (D_27 W_prog_6_method_22_code_0 14 rfl rfl) rfl (lv_at hl 1 rfl) ?_
    obtain ⟨g5, hf⟩ := gif hf
    refine zald (ci := 4) (k := 364) hx hb hK rfl hZ2 g1.1 g1.2 rfl (Nat.le_of_ble_eq_true rfl) g5.1 g5.2 (D_46 W_prog_6_method_22_code_0 15 rfl rfl) ?_
    refine lv_iconst (v := iI 3) hx hb (D_6 W_prog_6_method_22_code_0 16 rfl rfl) rfl ?_
    obtain ⟨g6, hf⟩ := gif hf
    refine zlt (tgt := 24) hx hb g6 (by decide) (D_161 W_prog_6_method_22_code_0 17 rfl rfl rfl) (by decide) (fun h7 => ?_) (fun h7 => ?_)
    · replace hf := gpos hf h7
      exact b_Part_isBeamed_24 X hf hZ2 hS2 (lv_sub hl [] rfl)
    · replace hf := gneg hf h7
      refine lv_iconst (v := iI 1) hx hb (D_4 W_prog_6_method_22_code_0 20 rfl rfl) rfl ?_
      refine lv_goto (tgt := 25) hx hb (D_167 W_prog_6_method_22_code_0 21 rfl rfl rfl) (by decide) ?_
      exact b_Part_isBeamed_25 X hf hZ2 hS2 (lv_sub hl [] rfl)

abbrev Q_Part_beamsWith (K : zK) (D : va_G) (ca : Nat → ClassId) (ad : Nat → Int → Nat → Nat) (L : List Nat) (r : Int) (F : zF) (B : zB) (A : Nat → Prop) : Array Value → State → Outcome → State → Prop := va_Qi (S := Unit) (fun p _ => p = iI r) (fun _ => zPo D ca ad lnC K.2 L F B A) A
def f_Part_beamsWith_60 (K : zK) (s0 : Int) (F : zF) (B : zB) : zO := if (s0 = 0 ∨ s0 = 1) then some (s0, F, B) else none
set_option maxHeartbeats 4000000 in
set_option maxRecDepth 100000 in
theorem b_Part_beamsWith_60 {D : va_G} {ca : Nat → ClassId} {ad : Nat → Int → Nat → Nat} {L : List Nat} {aS vS : Nat → Nat} {A : Nat → Prop} {p : Program} {l : Launch} {e : Env} {s : State} {m : MethodId} {args : Array Value} {below : List Frame} {meth : Method} {c : Code} {K : zK} {r : Int} {F9 : zF} {B9 : zB} (X : zX D ca L aS vS A p s m args meth c prog_6_method_23_code 5 (Option.some Jvm.ClassFile.FieldType.boolean) "StaveHouse$Part") {s0 : Int} {F : zF} {B : zB} {H : Heap} {locs : List Loc} {ls : Array Slot} (hf : f_Part_beamsWith_60 K s0 F B = some (r, F9, B9)) (hZ : zH D ca ad lnC K.2 L F B A H) (hS : va_S A s.heap H locs) (hl : lv_has ls 5 []) : W p l e ({ frames := 2, cells := 0, slots := 0, locals := 43 } : Room) s m args below meth c H locs 0 0 (MQ below (Q_Part_beamsWith K D ca ad L r F9 B9 A) args s 0 0 A) (F0 m 60 ls [.int (iI s0)]) := by
  obtain ⟨hx, hb, hr, hml, hown, hts, hlk, hK, hA, hL, hX⟩ := id X
  replace hf : (if (s0 = 0 ∨ s0 = 1) then some (s0, F, B) else none) = some (r, F9, B9) := hf
  obtain ⟨g17, hf⟩ := gif hf
  cases hf
  exact W.zret hx hb hr (zbool g17) (fun t ht hW => ⟨⟨_, (), rfl, rfl, by rw [ht]; exact hZ, va_K.moved hW.alike hK⟩, hS.F ht⟩) hS.2.2 (D_172 W_prog_6_method_23_code_32 28 rfl rfl) hlk

def f_Part_beamsWith_59 (K : zK)  (F : zF) (B : zB) : zO := f_Part_beamsWith_60 K 0 F B
set_option maxHeartbeats 4000000 in
set_option maxRecDepth 100000 in
theorem b_Part_beamsWith_59 {D : va_G} {ca : Nat → ClassId} {ad : Nat → Int → Nat → Nat} {L : List Nat} {aS vS : Nat → Nat} {A : Nat → Prop} {p : Program} {l : Launch} {e : Env} {s : State} {m : MethodId} {args : Array Value} {below : List Frame} {meth : Method} {c : Code} {K : zK} {r : Int} {F9 : zF} {B9 : zB} (X : zX D ca L aS vS A p s m args meth c prog_6_method_23_code 5 (Option.some Jvm.ClassFile.FieldType.boolean) "StaveHouse$Part")  {F : zF} {B : zB} {H : Heap} {locs : List Loc} {ls : Array Slot} (hf : f_Part_beamsWith_59 K  F B = some (r, F9, B9)) (hZ : zH D ca ad lnC K.2 L F B A H) (hS : va_S A s.heap H locs) (hl : lv_has ls 5 []) : W p l e ({ frames := 2, cells := 0, slots := 0, locals := 43 } : Room) s m args below meth c H locs 0 0 (MQ below (Q_Part_beamsWith K D ca ad L r F9 B9 A) args s 0 0 A) (F0 m 59 ls []) := by
  obtain ⟨hx, hb, hr, hml, hown, hts, hlk, hK, hA, hL, hX⟩ := id X
  replace hf : (f_Part_beamsWith_60 K 0 F B) = some (r, F9, B9) := hf
  refine lv_iconst (v := iI 0) hx hb (D_3 W_prog_6_method_23_code_32 27 rfl rfl) rfl ?_
  exact b_Part_beamsWith_60 X hf hZ hS (lv_sub hl [] rfl)

def f_Part_beamsWith (K : zK) (l0 : Int) (l1 : Int) (l2 : Int) (l3 : Int) (F : zF) (B : zB) : zO := if 0 ≤ l0 ∧ l0 < K.2 4 then if r32 l2 then if r32 (F 4 l0 10) then (if (F 4 l0 10) ≤ l2 then f_Part_beamsWith_59 K F B else zbind (f_Part_isBeamed K l0 l2 F B) (fun r5 F5 B5 => if r32 r5 then (if r5 = 0 then f_Part_beamsWith_59 K F5 B5 else if 0 ≤ l1 ∧ l1 < 800 then if 0 ≤ l2 ∧ l2 < 800 then if r32 (B5 4 l0 361 l1) then if r32 (B5 4 l0 361 l2) then (if (B5 4 l0 361 l1) = (B5 4 l0 361 l2) then if ¬ lI l3 = 0 then if r64 (zldv (B5 4 l0 9 l1) l3) then if r64 (zldv (B5 4 l0 9 l2) l3) then (if (zcmp (zldv (B5 4 l0 9 l1) l3) (zldv (B5 4 l0 9 l2) l3)) = 0 then f_Part_beamsWith_60 K 1 F5 B5 else f_Part_beamsWith_59 K F5 B5) else none else none else none else f_Part_beamsWith_59 K F5 B5) else none else none else none else none) else none)) else none else none else none
set_option maxHeartbeats 4000000 in
set_option maxRecDepth 100000 in
theorem c_Part_beamsWith {l : Launch} {D : va_G} {ca : Nat → ClassId} {ad : Nat → Int → Nat → Nat} {L : List Nat} {aS vS : Nat → Nat} {sz : Nat} {K : zK}  {l0 : Int} {l1 : Int} {l2 : Int} {l3 : Int} {F F9 : zF} {B B9 : zB} {r : Int} (hf : f_Part_beamsWith K l0 l1 l2 l3 F B = some (r, F9, B9)) : Met l ({ cls := "StaveHouse$Part", name := "beamsWith", desc := "(IIJ)Z" } : Jvm.MethodName) (Cond.code ({ cls := "StaveHouse$Part", name := "beamsWith", desc := "(IIJ)Z" } : Jvm.MethodName) prog_6_method_23_code 5 (Option.some Jvm.ClassFile.FieldType.boolean) :: wAll) ({ frames := 2, cells := 0, slots := 0, locals := 43 } : Room) (va_Pc [.ref (ad 4 l0 0), .int (iI l1), .int (iI l2), .long (lI l3)] (zPre D ca ad lnC K.2 L aS vS F B sz)) (Q_Part_beamsWith K D ca ad L r F9 B9 (zA L sz)) 0 0 (zA L sz) := by
  refine zMet (Qc := Q_Part_beamsWith K D ca ad L r F9 B9) (lv := [(0, .ref (ad 4 l0 0)), (1, .int (iI l1)), (2, .int (iI l2)), (3, .long (lI l3))]) (by decide) (Nat.le_of_ble_eq_true rfl) rfl (fun A p e s m below meth c ls X hZ hS hl => ?_)
  obtain ⟨hx, hb, hr, hml, hown, hts, hlk, hK, hA, hL, hX⟩ := id X
  replace hf : (if 0 ≤ l0 ∧ l0 < K.2 4 then if r32 l2 then if r32 (F 4 l0 10) then (if (F 4 l0 10) ≤ l2 then f_Part_beamsWith_59 K F B else zbind (f_Part_isBeamed K l0 l2 F B) (fun r5 F5 B5 => if r32 r5 then (if r5 = 0 then f_Part_beamsWith_59 K F5 B5 else if 0 ≤ l1 ∧ l1 < 800 then if 0 ≤ l2 ∧ l2 < 800 then if r32 (B5 4 l0 361 l1) then if r32 (B5 4 l0 361 l2) then (if (B5 4 l0 361 l1) = (B5 4 l0 361 l2) then if ¬ lI l3 = 0 then if r64 (zldv (B5 4 l0 9 l1) l3) then if r64 (zldv (B5 4 l0 9 l2) l3) then (if (zcmp (zldv (B5 4 l0 9 l1) l3) (zldv (B5 4 l0 9 l2) l3)) = 0 then f_Part_beamsWith_60 K 1 F5 B5 else f_Part_beamsWith_59 K F5 B5) else none else none else none else f_Part_beamsWith_59 K F5 B5) else none else none else none else none) else none)) else none else none else none) = some (r, F9, B9) := hf
  refine lv_iload_n hx hb (D_28 W_prog_6_method_23_code_0 0 rfl rfl) rfl (lv_at hl 2 rfl) ?_
  refine lv_aload_n hx hb (D_42 W_prog_6_method_23_code_0 1 rfl rfl) rfl (lv_at hl 0 rfl) ?_
  obtain ⟨g1, hf⟩ := gif hf
  refine zget (ci := 4) (C := RX4) (T := TX4) (v := .int (iI (F 4 l0 10))) (k := 10) hx hb hts inW_4 hown hK hZ g1.1 g1.2 rfl (by decide) k_4_148 rfl (D_180 W_prog_6_method_23_code_0 2 rfl rfl rfl) ?_
  obtain ⟨g2, hf⟩ := gif hf
  obtain ⟨g3, hf⟩ := gif hf
  refine zge (tgt := 59) hx hb g2 g3 (D_162 W_prog_6_method_23_code_0 5 rfl rfl rfl) (by decide) (fun h4 => ?_) (fun h4 => ?_)
  · replace hf := gpos hf h4
    exact b_Part_beamsWith_59 X hf hZ hS (lv_sub hl [] rfl)
  · replace hf := gneg hf h4
    refine lv_aload_n hx hb (D_42 W_prog_6_method_23_code_0 8 rfl rfl) rfl (lv_at hl 0 rfl) ?_
    refine lv_iload_n hx hb (D_28 W_prog_6_method_23_code_0 9 rfl rfl) rfl (lv_at hl 2 rfl) ?_
    obtain ⟨r5, F5, B5, hc5, hf⟩ := gbind hf
    refine va_calli (va_runV (As := [.int (iI l2)]) (rest := []) ⟨hx, hb, hml, hown, hts⟩ (c_Part_isBeamed (l := l) hc5) (cwV 1 hts (gdV k_5_153 k_5_155 ks_62 k_1_18 k_5_156) rfl rfl rfl (by decide +kernel) ⟨Nat.le_of_ble_eq_true rfl, Nat.le_of_ble_eq_true rfl⟩) (zPV X hZ hS (ci := 4) g1.1 g1.2 (r := (RX4, TX4, 13)) rfl [.int (iI l2)]) rfl rfl hl.1 rfl (lv_room (Nat.le_of_ble_eq_true rfl)) (D_182 W_prog_6_method_23_code_0 10 rfl rfl rfl) ⟨Nat.le_of_ble_eq_true rfl, Nat.le_of_ble_eq_true rfl⟩) hS (fun q _ h => zAin X hS q h) (zAin X hS) (fun p5 u5 t5 H5 locs5 ht5 hv5 hw5 hB5 hz5 hk5 hS5 => ?_)
    have hZ5 := zBack X ht5 hB5
    subst hw5
    obtain ⟨g6, hf⟩ := gif hf
    refine z0eq (tgt := 59) hx hb g6 (D_153 W_prog_6_method_23_code_0 13 rfl rfl rfl) (by decide) (fun h7 => ?_) (fun h7 => ?_)
    · replace hf := gpos hf h7
      exact b_Part_beamsWith_59 X hf hZ5 hS5 (lv_sub hl [] rfl)
    · replace hf := gneg hf h7
      refine lv_aload_n hx hb (D_42 W_prog_6_method_23_code_0 16 rfl rfl) rfl (lv_at hl 0 rfl) ?_
      refine zget (ci := 4) (C := RX4) (T := TX4) (v := .ref (ad 4 l0 (8 + 1))) (k := 8) hx hb hts inW_4 hown hK hZ5 g1.1 g1.2 rfl (by decide) k_4_142 rfl (D_180 W_prog_6_method_23_code_0 17 rfl rfl rfl) ?_
      refine lv_iconst (v := iI 1) hx hb (D_4 W_prog_6_method_23_code_0 20 rfl rfl) rfl ?_
      refine zaldQ (t := 0) (ci := 4) (k := 8) hx hb hK rfl hZ5 g1.1 g1.2 rfl (Nat.le_of_ble_eq_true rfl) (by decide) (by decide) (D_50 W_prog_6_method_23_code_0 21 rfl rfl) ?_
      refine W.eq (g2 := F0 m 22 ls [.ref (ad 4 l0 (361 + 1))]) rfl ?_
      refine lv_iload_n hx hb (D_27 W_prog_6_method_23_code_0 22 rfl rfl) rfl (lv_at hl 1 rfl) ?_
      obtain ⟨g8, hf⟩ := gif hf
      refine zald (ci := 4) (k := 361) hx hb hK rfl hZ5 g1.1 g1.2 rfl (Nat.le_of_ble_eq_true rfl) g8.1 g8.2 (D_46 W_prog_6_method_23_code_0 23 rfl rfl) ?_
      refine lv_aload_n hx hb (D_42 W_prog_6_method_23_code_0 24 rfl rfl) rfl (lv_at hl 0 rfl) ?_
      refine zget (ci := 4) (C := RX4) (T := TX4) (v := .ref (ad 4 l0 (8 + 1))) (k := 8) hx hb hts inW_4 hown hK hZ5 g1.1 g1.2 rfl (by decide) k_4_142 rfl (D_180 W_prog_6_method_23_code_0 25 rfl rfl rfl) ?_
      refine lv_iconst (v := iI 1) hx hb (D_4 W_prog_6_method_23_code_0 28 rfl rfl) rfl ?_
      refine zaldQ (t := 0) (ci := 4) (k := 8) hx hb hK rfl hZ5 g1.1 g1.2 rfl (Nat.le_of_ble_eq_true rfl) (by decide) (by decide) (D_50 W_prog_6_method_23_code_0 29 rfl rfl) ?_
      refine W.eq (g2 := F0 m 30 ls [.ref (ad 4 l0 (361 + 1)), .int (iI (B5 4 l0 361 l1))]) rfl ?_
      refine lv_iload_n hx hb (D_28 W_prog_6_method_23_code_0 30 rfl rfl) rfl (lv_at hl 2 rfl) ?_
      obtain ⟨g9, hf⟩ := gif hf
      refine zald (ci := 4) (k := 361) hx hb hK rfl hZ5 g1.1 g1.2 rfl (Nat.le_of_ble_eq_true rfl) g9.1 g9.2 (D_46 W_prog_6_method_23_code_0 31 rfl rfl) ?_
      obtain ⟨g10, hf⟩ := gif hf
      obtain ⟨g11, hf⟩ := gif hf
      refine zne (tgt := 59) hx hb g10 g11 (D_160 W_prog_6_method_23_code_32 0 rfl rfl rfl) (by decide) (fun h12 => ?_) (fun h12 => ?_)
      · replace hf := gneg hf h12
        exact b_Part_beamsWith_59 X hf hZ5 hS5 (lv_sub hl [] rfl)
      · replace hf := gpos hf h12
        refine lv_aload_n hx hb (D_42 W_prog_6_method_23_code_32 3 rfl rfl) rfl (lv_at hl 0 rfl) ?_
        refine zget (ci := 4) (C := RX4) (T := TX4) (v := .ref (ad 4 l0 (9 + 1))) (k := 9) hx hb hts inW_4 hown hK hZ5 g1.1 g1.2 rfl (by decide) k_4_145 rfl (D_180 W_prog_6_method_23_code_32 4 rfl rfl rfl) ?_
        refine lv_iload_n hx hb (D_27 W_prog_6_method_23_code_32 7 rfl rfl) rfl (lv_at hl 1 rfl) ?_
        refine zlald (ci := 4) (k := 9) hx hb hK rfl hZ5 g1.1 g1.2 rfl (Nat.le_of_ble_eq_true rfl) g8.1 g8.2 (D_47 W_prog_6_method_23_code_32 8 rfl rfl) ?_
        refine lv_lload_n hx hb (D_33 W_prog_6_method_23_code_32 9 rfl rfl) rfl (lv_at hl 3 rfl) ?_
        obtain ⟨g13, hf⟩ := gif hf
        refine zldv_r hx hb g13 (D_109 W_prog_6_method_23_code_32 10 rfl rfl) ?_
        refine lv_aload_n hx hb (D_42 W_prog_6_method_23_code_32 11 rfl rfl) rfl (lv_at hl 0 rfl) ?_
        refine zget (ci := 4) (C := RX4) (T := TX4) (v := .ref (ad 4 l0 (9 + 1))) (k := 9) hx hb hts inW_4 hown hK hZ5 g1.1 g1.2 rfl (by decide) k_4_145 rfl (D_180 W_prog_6_method_23_code_32 12 rfl rfl rfl) ?_
        refine lv_iload_n hx hb (D_28 W_prog_6_method_23_code_32 15 rfl rfl) rfl (lv_at hl 2 rfl) ?_
        refine zlald (ci := 4) (k := 9) hx hb hK rfl hZ5 g1.1 g1.2 rfl (Nat.le_of_ble_eq_true rfl) g9.1 g9.2 (D_47 W_prog_6_method_23_code_32 16 rfl rfl) ?_
        refine lv_lload_n hx hb (D_33 W_prog_6_method_23_code_32 17 rfl rfl) rfl (lv_at hl 3 rfl) ?_
        refine zldv_r hx hb g13 (D_109 W_prog_6_method_23_code_32 18 rfl rfl) ?_
        obtain ⟨g14, hf⟩ := gif hf
        obtain ⟨g15, hf⟩ := gif hf
        refine zcmp_r hx hb g14 g15 (D_148 W_prog_6_method_23_code_32 19 rfl rfl) ?_
        refine z0ne (tgt := 59) hx hb zcmp_32 (D_154 W_prog_6_method_23_code_32 20 rfl rfl rfl) (by decide) (fun h16 => ?_) (fun h16 => ?_)
        · replace hf := gneg hf h16
          exact b_Part_beamsWith_59 X hf hZ5 hS5 (lv_sub hl [] rfl)
        · replace hf := gpos hf h16
          refine lv_iconst (v := iI 1) hx hb (D_4 W_prog_6_method_23_code_32 23 rfl rfl) rfl ?_
          refine lv_goto (tgt := 60) hx hb (D_167 W_prog_6_method_23_code_32 24 rfl rfl rfl) (by decide) ?_
          exact b_Part_beamsWith_60 X hf hZ5 hS5 (lv_sub hl [] rfl)

abbrev Q_Part_setStems (K : zK) (D : va_G) (ca : Nat → ClassId) (ad : Nat → Int → Nat → Nat) (L : List Nat) (r : Int) (F : zF) (B : zB) (A : Nat → Prop) : Array Value → State → Outcome → State → Prop := va_Qv (S := Unit) (fun _ => True) (fun _ => zPo D ca ad lnC K.2 L F B A) A
def f_Part_setStems_211 (K : zK)  (F : zF) (B : zB) : zO := some (0, F, B)
set_option maxHeartbeats 4000000 in
set_option maxRecDepth 100000 in
theorem b_Part_setStems_211 {D : va_G} {ca : Nat → ClassId} {ad : Nat → Int → Nat → Nat} {L : List Nat} {aS vS : Nat → Nat} {A : Nat → Prop} {p : Program} {l : Launch} {e : Env} {s : State} {m : MethodId} {args : Array Value} {below : List Frame} {meth : Method} {c : Code} {K : zK} {r : Int} {F9 : zF} {B9 : zB} (X : zX D ca L aS vS A p s m args meth c prog_6_method_25_code 7 (Option.none : Option Jvm.ClassFile.FieldType) "StaveHouse$Part")  {F : zF} {B : zB} {H : Heap} {locs : List Loc} {ls : Array Slot} (hf : f_Part_setStems_211 K  F B = some (r, F9, B9)) (hZ : zH D ca ad lnC K.2 L F B A H) (hS : va_S A s.heap H locs) (hl : lv_has ls 7 []) : W p l e ({ frames := 2, cells := 0, slots := 0, locals := 36 } : Room) s m args below meth c H locs 0 0 (MQ below (Q_Part_setStems K D ca ad L r F9 B9 A) args s 0 0 A) (F0 m 211 ls []) := by
  obtain ⟨hx, hb, hr, hml, hown, hts, hlk, hK, hA, hL, hX⟩ := id X
  replace hf : (some (0, F, B)) = some (r, F9, B9) := hf
  cases hf
  exact W.vret hx hb hr (fun t ht hW => ⟨⟨(), rfl, trivial, by rw [ht]; exact hZ, va_K.moved hW.alike hK⟩, hS.F ht⟩) hS.2.2 (D_177 W_prog_6_method_25_code_192 19 rfl rfl) hlk

def f_Part_setStems_194 (rec4 : Int → Int → Int → zF → zB → zO) (rec130 : Int → Int → Int → Int → Int → Int → zF → zB → zO) (K : zK) (l5 : Int) (l4 : Int) (l3 : Int) (l2 : Int) (l1 : Int) (l0 : Int) (s0 : Int) (s1 : Int) (s2 : Int) (F : zF) (B : zB) : zO := if 0 ≤ s0 ∧ s0 < K.2 4 then if 0 ≤ s1 ∧ s1 < 800 then rec130 (l5 + 1) l4 l3 l2 l1 l0 F (zup4 B 4 s0 371 s1 s2) else none else none
set_option maxHeartbeats 4000000 in
set_option maxRecDepth 100000 in
theorem b_Part_setStems_194 {D : va_G} {ca : Nat → ClassId} {ad : Nat → Int → Nat → Nat} {L : List Nat} {aS vS : Nat → Nat} {A : Nat → Prop} {p : Program} {l : Launch} {e : Env} {s : State} {m : MethodId} {args : Array Value} {below : List Frame} {meth : Method} {c : Code} {K : zK} {r : Int} {F9 : zF} {B9 : zB} (X : zX D ca L aS vS A p s m args meth c prog_6_method_25_code 7 (Option.none : Option Jvm.ClassFile.FieldType) "StaveHouse$Part") {rec4 : Int → Int → Int → zF → zB → zO} {rec130 : Int → Int → Int → Int → Int → Int → zF → zB → zO} (hrec4 : ∀ {l2 : Int} {l1 : Int} {l0 : Int} {F : zF} {B : zB} {H : Heap} {locs : List Loc} {ls : Array Slot}, rec4 l2 l1 l0 F B = some (r, F9, B9) → zH D ca ad lnC K.2 L F B A H → va_S A s.heap H locs → lv_has ls 7 [(2, .int (iI l2)), (1, .int (iI l1)), (0, .ref (ad 4 l0 0))] → W p l e ({ frames := 2, cells := 0, slots := 0, locals := 36 } : Room) s m args below meth c H locs 0 0 (MQ below (Q_Part_setStems K D ca ad L r F9 B9 A) args s 0 0 A) (F0 m 4 ls [])) (hrec130 : ∀ {l5 : Int} {l4 : Int} {l3 : Int} {l2 : Int} {l1 : Int} {l0 : Int} {F : zF} {B : zB} {H : Heap} {locs : List Loc} {ls : Array Slot}, rec130 l5 l4 l3 l2 l1 l0 F B = some (r, F9, B9) → zH D ca ad lnC K.2 L F B A H → va_S A s.heap H locs → lv_has ls 7 [(5, .int (iI l5)), (4, .int (iI l4)), (3, .int (iI l3)), (2, .int (iI l2)), (1, .int (iI l1)), (0, .ref (ad 4 l0 0))] → W p l e ({ frames := 2, cells := 0, slots := 0, locals := 36 } : Room) s m args below meth c H locs 0 0 (MQ below (Q_Part_setStems K D ca ad L r F9 B9 A) args s 0 0 A) (F0 m 130 ls [])) {l5 : Int} {l4 : Int} {l3 : Int} {l2 : Int} {l1 : Int} {l0 : Int} {s0 : Int} {s1 : Int} {s2 : Int} {F : zF} {B : zB} {H : Heap} {locs : List Loc} {ls : Array Slot} (hf : f_Part_setStems_194 rec4 rec130 K l5 l4 l3 l2 l1 l0 s0 s1 s2 F B = some (r, F9, B9)) (hZ : zH D ca ad lnC K.2 L F B A H) (hS : va_S A s.heap H locs) (hl : lv_has ls 7 [(5, .int (iI l5)), (4, .int (iI l4)), (3, .int (iI l3)), (2, .int (iI l2)), (1, .int (iI l1)), (0, .ref (ad 4 l0 0))]) : W p l e ({ frames := 2, cells := 0, slots := 0, locals := 36 } : Room) s m args below meth c H locs 0 0 (MQ below (Q_Part_setStems K D ca ad L r F9 B9 A) args s 0 0 A) (F0 m 194 ls [.int (iI s2), .int (iI s1), .ref (ad 4 s0 (371 + 1))]) := by
  obtain ⟨hx, hb, hr, hml, hown, hts, hlk, hK, hA, hL, hX⟩ := id X
  replace hf : (if 0 ≤ s0 ∧ s0 < K.2 4 then if 0 ≤ s1 ∧ s1 < 800 then rec130 (l5 + 1) l4 l3 l2 l1 l0 F (zup4 B 4 s0 371 s1 s2) else none else none) = some (r, F9, B9) := hf
  obtain ⟨g42, hf⟩ := gif hf
  obtain ⟨g43, hf⟩ := gif hf
  refine zast (ci := 4) (k := 371) hx hb hK rfl hZ hS g42.1 g42.2 rfl (Nat.le_of_ble_eq_true rfl) g43.1 g43.2 (D_79 W_prog_6_method_25_code_192 2 rfl rfl) (fun H44 locs44 hZ44 hS44 => ?_)
  refine lv_iinc (v := iI (l5 + 1)) (lv' := [(5, .int (iI (l5 + 1))), (4, .int (iI l4)), (3, .int (iI l3)), (2, .int (iI l2)), (1, .int (iI l1)), (0, .ref (ad 4 l0 0))]) hx hb d_6_25_195 hl (k := 0) rfl (iI_add _ 1) (by decide) rfl (fun ls hl => ?_)
  refine lv_goto (tgt := 130) hx hb (D_167 W_prog_6_method_25_code_192 6 rfl rfl rfl) (by decide) ?_
  exact hrec130 hf hZ44 hS44 (lv_sub hl [0, 1, 2, 3, 4, 5] rfl)

def f_Part_setStems_164 (rec4 : Int → Int → Int → zF → zB → zO) (rec130 : Int → Int → Int → Int → Int → Int → zF → zB → zO) (K : zK) (l5 : Int) (l4 : Int) (l3 : Int) (l2 : Int) (l1 : Int) (l0 : Int) (s0 : Int) (F : zF) (B : zB) : zO := if 0 ≤ l0 ∧ l0 < K.2 4 then if r32 s0 then (if s0 = 0 then if r32 l4 then (if 0 ≤ l4 then f_Part_setStems_194 rec4 rec130 K l5 l4 l3 l2 l1 l0 l0 l5 2 F B else f_Part_setStems_194 rec4 rec130 K l5 l4 l3 l2 l1 l0 l0 l5 1 F B) else none else f_Part_setStems_194 rec4 rec130 K l5 l4 l3 l2 l1 l0 l0 l5 0 F B) else none else none
set_option maxHeartbeats 4000000 in
set_option maxRecDepth 100000 in
theorem b_Part_setStems_164 {D : va_G} {ca : Nat → ClassId} {ad : Nat → Int → Nat → Nat} {L : List Nat} {aS vS : Nat → Nat} {A : Nat → Prop} {p : Program} {l : Launch} {e : Env} {s : State} {m : MethodId} {args : Array Value} {below : List Frame} {meth : Method} {c : Code} {K : zK} {r : Int} {F9 : zF} {B9 : zB} (X : zX D ca L aS vS A p s m args meth c prog_6_method_25_code 7 (Option.none : Option Jvm.ClassFile.FieldType) "StaveHouse$Part") {rec4 : Int → Int → Int → zF → zB → zO} {rec130 : Int → Int → Int → Int → Int → Int → zF → zB → zO} (hrec4 : ∀ {l2 : Int} {l1 : Int} {l0 : Int} {F : zF} {B : zB} {H : Heap} {locs : List Loc} {ls : Array Slot}, rec4 l2 l1 l0 F B = some (r, F9, B9) → zH D ca ad lnC K.2 L F B A H → va_S A s.heap H locs → lv_has ls 7 [(2, .int (iI l2)), (1, .int (iI l1)), (0, .ref (ad 4 l0 0))] → W p l e ({ frames := 2, cells := 0, slots := 0, locals := 36 } : Room) s m args below meth c H locs 0 0 (MQ below (Q_Part_setStems K D ca ad L r F9 B9 A) args s 0 0 A) (F0 m 4 ls [])) (hrec130 : ∀ {l5 : Int} {l4 : Int} {l3 : Int} {l2 : Int} {l1 : Int} {l0 : Int} {F : zF} {B : zB} {H : Heap} {locs : List Loc} {ls : Array Slot}, rec130 l5 l4 l3 l2 l1 l0 F B = some (r, F9, B9) → zH D ca ad lnC K.2 L F B A H → va_S A s.heap H locs → lv_has ls 7 [(5, .int (iI l5)), (4, .int (iI l4)), (3, .int (iI l3)), (2, .int (iI l2)), (1, .int (iI l1)), (0, .ref (ad 4 l0 0))] → W p l e ({ frames := 2, cells := 0, slots := 0, locals := 36 } : Room) s m args below meth c H locs 0 0 (MQ below (Q_Part_setStems K D ca ad L r F9 B9 A) args s 0 0 A) (F0 m 130 ls [])) {l5 : Int} {l4 : Int} {l3 : Int} {l2 : Int} {l1 : Int} {l0 : Int} {s0 : Int} {F : zF} {B : zB} {H : Heap} {locs : List Loc} {ls : Array Slot} (hf : f_Part_setStems_164 rec4 rec130 K l5 l4 l3 l2 l1 l0 s0 F B = some (r, F9, B9)) (hZ : zH D ca ad lnC K.2 L F B A H) (hS : va_S A s.heap H locs) (hl : lv_has ls 7 [(5, .int (iI l5)), (4, .int (iI l4)), (3, .int (iI l3)), (2, .int (iI l2)), (1, .int (iI l1)), (0, .ref (ad 4 l0 0))]) : W p l e ({ frames := 2, cells := 0, slots := 0, locals := 36 } : Room) s m args below meth c H locs 0 0 (MQ below (Q_Part_setStems K D ca ad L r F9 B9 A) args s 0 0 A) (F0 m 164 ls [.int (iI s0)]) := by
  obtain ⟨hx, hb, hr, hml, hown, hts, hlk, hK, hA, hL, hX⟩ := id X
  replace hf : (if 0 ≤ l0 ∧ l0 < K.2 4 then if r32 s0 then (if s0 = 0 then if r32 l4 then (if 0 ≤ l4 then f_Part_setStems_194 rec4 rec130 K l5 l4 l3 l2 l1 l0 l0 l5 2 F B else f_Part_setStems_194 rec4 rec130 K l5 l4 l3 l2 l1 l0 l0 l5 1 F B) else none else f_Part_setStems_194 rec4 rec130 K l5 l4 l3 l2 l1 l0 l0 l5 0 F B) else none else none) = some (r, F9, B9) := hf
  refine lv_istore (lv' := [(6, .int (iI s0)), (5, .int (iI l5)), (4, .int (iI l4)), (3, .int (iI l3)), (2, .int (iI l2)), (1, .int (iI l1)), (0, .ref (ad 4 l0 0))]) hx hb (D_54 W_prog_6_method_25_code_160 4 rfl rfl) hl (by decide) rfl (fun ls hl => ?_)
  refine lv_aload_n hx hb (D_42 W_prog_6_method_25_code_160 6 rfl rfl) rfl (lv_at hl 6 rfl) ?_
  obtain ⟨g37, hf⟩ := gif hf
  refine zget (ci := 4) (C := RX4) (T := TX4) (v := .ref (ad 4 l0 (8 + 1))) (k := 8) hx hb hts inW_4 hown hK hZ g37.1 g37.2 rfl (by decide) k_4_142 rfl (D_180 W_prog_6_method_25_code_160 7 rfl rfl rfl) ?_
  refine lv_bipush (v := iI 11) hx hb (D_16 W_prog_6_method_25_code_160 10 rfl rfl rfl) (by decide) ?_
  refine zaldQ (t := 0) (ci := 4) (k := 8) hx hb hK rfl hZ g37.1 g37.2 rfl (Nat.le_of_ble_eq_true rfl) (by decide) (by decide) (D_50 W_prog_6_method_25_code_160 12 rfl rfl) ?_
  refine W.eq (g2 := F0 m 173 ls [.ref (ad 4 l0 (371 + 1))]) rfl ?_
  refine lv_iload hx hb (D_21 W_prog_6_method_25_code_160 13 rfl rfl) (lv_at hl 1 rfl) ?_
  refine lv_iload hx hb (D_21 W_prog_6_method_25_code_160 15 rfl rfl) (lv_at hl 0 rfl) ?_
  obtain ⟨g38, hf⟩ := gif hf
  refine z0eq (tgt := 184) hx hb g38 (D_153 W_prog_6_method_25_code_160 17 rfl rfl rfl) (by decide) (fun h39 => ?_) (fun h39 => ?_)
  · replace hf := gpos hf h39
    refine lv_iload hx hb (D_21 W_prog_6_method_25_code_160 24 rfl rfl) (lv_at hl 2 rfl) ?_
    obtain ⟨g40, hf⟩ := gif hf
    refine z0ge (tgt := 193) hx hb g40 (D_156 W_prog_6_method_25_code_160 26 rfl rfl rfl) (by decide) (fun h41 => ?_) (fun h41 => ?_)
    · replace hf := gpos hf h41
      refine lv_iconst (v := iI 2) hx hb (D_5 W_prog_6_method_25_code_192 1 rfl rfl) rfl ?_
      exact b_Part_setStems_194 X hrec4 hrec130 hf hZ hS (lv_sub hl [1, 2, 3, 4, 5, 6] rfl)
    · replace hf := gneg hf h41
      refine lv_iconst (v := iI 1) hx hb (D_4 W_prog_6_method_25_code_160 29 rfl rfl) rfl ?_
      refine lv_goto (tgt := 194) hx hb (D_167 W_prog_6_method_25_code_160 30 rfl rfl rfl) (by decide) ?_
      exact b_Part_setStems_194 X hrec4 hrec130 hf hZ hS (lv_sub hl [1, 2, 3, 4, 5, 6] rfl)
  · replace hf := gneg hf h39
    refine lv_iconst (v := iI 0) hx hb (D_3 W_prog_6_method_25_code_160 20 rfl rfl) rfl ?_
    refine lv_goto (tgt := 194) hx hb (D_167 W_prog_6_method_25_code_160 21 rfl rfl rfl) (by decide) ?_
    exact b_Part_setStems_194 X hrec4 hrec130 hf hZ hS (lv_sub hl [1, 2, 3, 4, 5, 6] rfl)

def f_Part_setStems_159 (rec4 : Int → Int → Int → zF → zB → zO) (rec130 : Int → Int → Int → Int → Int → Int → zF → zB → zO) (K : zK) (l5 : Int) (l4 : Int) (l3 : Int) (l2 : Int) (l1 : Int) (l0 : Int) (F : zF) (B : zB) : zO := f_Part_setStems_164 rec4 rec130 K l5 l4 l3 l2 l1 l0 1 F B
set_option maxHeartbeats 4000000 in
set_option maxRecDepth 100000 in
theorem b_Part_setStems_159 {D : va_G} {ca : Nat → ClassId} {ad : Nat → Int → Nat → Nat} {L : List Nat} {aS vS : Nat → Nat} {A : Nat → Prop} {p : Program} {l : Launch} {e : Env} {s : State} {m : MethodId} {args : Array Value} {below : List Frame} {meth : Method} {c : Code} {K : zK} {r : Int} {F9 : zF} {B9 : zB} (X : zX D ca L aS vS A p s m args meth c prog_6_method_25_code 7 (Option.none : Option Jvm.ClassFile.FieldType) "StaveHouse$Part") {rec4 : Int → Int → Int → zF → zB → zO} {rec130 : Int → Int → Int → Int → Int → Int → zF → zB → zO} (hrec4 : ∀ {l2 : Int} {l1 : Int} {l0 : Int} {F : zF} {B : zB} {H : Heap} {locs : List Loc} {ls : Array Slot}, rec4 l2 l1 l0 F B = some (r, F9, B9) → zH D ca ad lnC K.2 L F B A H → va_S A s.heap H locs → lv_has ls 7 [(2, .int (iI l2)), (1, .int (iI l1)), (0, .ref (ad 4 l0 0))] → W p l e ({ frames := 2, cells := 0, slots := 0, locals := 36 } : Room) s m args below meth c H locs 0 0 (MQ below (Q_Part_setStems K D ca ad L r F9 B9 A) args s 0 0 A) (F0 m 4 ls [])) (hrec130 : ∀ {l5 : Int} {l4 : Int} {l3 : Int} {l2 : Int} {l1 : Int} {l0 : Int} {F : zF} {B : zB} {H : Heap} {locs : List Loc} {ls : Array Slot}, rec130 l5 l4 l3 l2 l1 l0 F B = some (r, F9, B9) → zH D ca ad lnC K.2 L F B A H → va_S A s.heap H locs → lv_has ls 7 [(5, .int (iI l5)), (4, .int (iI l4)), (3, .int (iI l3)), (2, .int (iI l2)), (1, .int (iI l1)), (0, .ref (ad 4 l0 0))] → W p l e ({ frames := 2, cells := 0, slots := 0, locals := 36 } : Room) s m args below meth c H locs 0 0 (MQ below (Q_Part_setStems K D ca ad L r F9 B9 A) args s 0 0 A) (F0 m 130 ls [])) {l5 : Int} {l4 : Int} {l3 : Int} {l2 : Int} {l1 : Int} {l0 : Int} {F : zF} {B : zB} {H : Heap} {locs : List Loc} {ls : Array Slot} (hf : f_Part_setStems_159 rec4 rec130 K l5 l4 l3 l2 l1 l0 F B = some (r, F9, B9)) (hZ : zH D ca ad lnC K.2 L F B A H) (hS : va_S A s.heap H locs) (hl : lv_has ls 7 [(5, .int (iI l5)), (4, .int (iI l4)), (3, .int (iI l3)), (2, .int (iI l2)), (1, .int (iI l1)), (0, .ref (ad 4 l0 0))]) : W p l e ({ frames := 2, cells := 0, slots := 0, locals := 36 } : Room) s m args below meth c H locs 0 0 (MQ below (Q_Part_setStems K D ca ad L r F9 B9 A) args s 0 0 A) (F0 m 159 ls []) := by
  obtain ⟨hx, hb, hr, hml, hown, hts, hlk, hK, hA, hL, hX⟩ := id X
  replace hf : (f_Part_setStems_164 rec4 rec130 K l5 l4 l3 l2 l1 l0 1 F B) = some (r, F9, B9) := hf
  refine lv_iconst (v := iI 1) hx hb (D_4 W_prog_6_method_25_code_128 31 rfl rfl) rfl ?_
  refine lv_goto (tgt := 164) hx hb (D_167 W_prog_6_method_25_code_160 0 rfl rfl rfl) (by decide) ?_
  exact b_Part_setStems_164 X hrec4 hrec130 hf hZ hS (lv_sub hl [0, 1, 2, 3, 4, 5] rfl)

def f_Part_setStems_130 (rec4 : Int → Int → Int → zF → zB → zO) (K : zK) : Nat → Int → Int → Int → Int → Int → Int → zF → zB → zO
  | 0, _, _, _, _, _, _, _, _ => none
  | n + 1, l5, l4, l3, l2, l1, l0, F, B => if r32 l5 then if r32 (l1 + l3) then (if (l1 + l3) ≤ l5 then rec4 (l2 + 1) (l1 + l3) l0 F B else if 0 ≤ l0 ∧ l0 < K.2 4 then zbind (f_Part_isRestNote K l0 l5 F B) (fun r30 F30 B30 => if r32 r30 then (if r30 = 0 then if 0 ≤ l5 ∧ l5 < 800 then if r32 (B30 4 l0 364 l5) then (if (B30 4 l0 364 l5) = 0 then f_Part_setStems_159 rec4 (f_Part_setStems_130 rec4 K n) K l5 l4 l3 l2 l1 l0 F30 B30 else f_Part_setStems_164 rec4 (f_Part_setStems_130 rec4 K n) K l5 l4 l3 l2 l1 l0 0 F30 B30) else none else none else f_Part_setStems_159 rec4 (f_Part_setStems_130 rec4 K n) K l5 l4 l3 l2 l1 l0 F30 B30) else none) else none) else none else none
set_option maxHeartbeats 4000000 in
set_option maxRecDepth 100000 in
theorem b_Part_setStems_130 {D : va_G} {ca : Nat → ClassId} {ad : Nat → Int → Nat → Nat} {L : List Nat} {aS vS : Nat → Nat} {A : Nat → Prop} {p : Program} {l : Launch} {e : Env} {s : State} {m : MethodId} {args : Array Value} {below : List Frame} {meth : Method} {c : Code} {K : zK} {r : Int} {F9 : zF} {B9 : zB} (X : zX D ca L aS vS A p s m args meth c prog_6_method_25_code 7 (Option.none : Option Jvm.ClassFile.FieldType) "StaveHouse$Part") {rec4 : Int → Int → Int → zF → zB → zO} (hrec4 : ∀ {l2 : Int} {l1 : Int} {l0 : Int} {F : zF} {B : zB} {H : Heap} {locs : List Loc} {ls : Array Slot}, rec4 l2 l1 l0 F B = some (r, F9, B9) → zH D ca ad lnC K.2 L F B A H → va_S A s.heap H locs → lv_has ls 7 [(2, .int (iI l2)), (1, .int (iI l1)), (0, .ref (ad 4 l0 0))] → W p l e ({ frames := 2, cells := 0, slots := 0, locals := 36 } : Room) s m args below meth c H locs 0 0 (MQ below (Q_Part_setStems K D ca ad L r F9 B9 A) args s 0 0 A) (F0 m 4 ls [])) : ∀ {n : Nat} {l5 : Int} {l4 : Int} {l3 : Int} {l2 : Int} {l1 : Int} {l0 : Int} {F : zF} {B : zB} {H : Heap} {locs : List Loc} {ls : Array Slot}, f_Part_setStems_130 rec4 K n l5 l4 l3 l2 l1 l0 F B = some (r, F9, B9) → zH D ca ad lnC K.2 L F B A H → va_S A s.heap H locs → lv_has ls 7 [(5, .int (iI l5)), (4, .int (iI l4)), (3, .int (iI l3)), (2, .int (iI l2)), (1, .int (iI l1)), (0, .ref (ad 4 l0 0))] → W p l e ({ frames := 2, cells := 0, slots := 0, locals := 36 } : Room) s m args below meth c H locs 0 0 (MQ below (Q_Part_setStems K D ca ad L r F9 B9 A) args s 0 0 A) (F0 m 130 ls []) := by
  obtain ⟨hx, hb, hr, hml, hown, hts, hlk, hK, hA, hL, hX⟩ := id X
  intro n
  induction n with
  | zero =>
    intros
    rename_i hf _ _ _
    cases hf
  | succ n ih =>
    intro l5 l4 l3 l2 l1 l0 F B H locs ls hf hZ hS hl
    replace hf : (if r32 l5 then if r32 (l1 + l3) then (if (l1 + l3) ≤ l5 then rec4 (l2 + 1) (l1 + l3) l0 F B else if 0 ≤ l0 ∧ l0 < K.2 4 then zbind (f_Part_isRestNote K l0 l5 F B) (fun r30 F30 B30 => if r32 r30 then (if r30 = 0 then if 0 ≤ l5 ∧ l5 < 800 then if r32 (B30 4 l0 364 l5) then (if (B30 4 l0 364 l5) = 0 then f_Part_setStems_159 rec4 (f_Part_setStems_130 rec4 K n) K l5 l4 l3 l2 l1 l0 F30 B30 else f_Part_setStems_164 rec4 (f_Part_setStems_130 rec4 K n) K l5 l4 l3 l2 l1 l0 0 F30 B30) else none else none else f_Part_setStems_159 rec4 (f_Part_setStems_130 rec4 K n) K l5 l4 l3 l2 l1 l0 F30 B30) else none) else none) else none else none) = some (r, F9, B9) := hf
    refine lv_iload hx hb (D_21 W_prog_6_method_25_code_128 2 rfl rfl) (lv_at hl 0 rfl) ?_
    refine lv_iload_n hx hb (D_27 W_prog_6_method_25_code_128 4 rfl rfl) rfl (lv_at hl 4 rfl) ?_
    refine lv_iload_n hx hb (D_29 W_prog_6_method_25_code_128 5 rfl rfl) rfl (lv_at hl 2 rfl) ?_
    refine zadd hx hb (D_96 W_prog_6_method_25_code_128 6 rfl rfl) ?_
    obtain ⟨g26, hf⟩ := gif hf
    obtain ⟨g27, hf⟩ := gif hf
    refine zge (tgt := 201) hx hb g26 g27 (D_162 W_prog_6_method_25_code_128 7 rfl rfl rfl) (by decide) (fun h28 => ?_) (fun h28 => ?_)
    · replace hf := gpos hf h28
      refine lv_iload_n hx hb (D_27 W_prog_6_method_25_code_192 9 rfl rfl) rfl (lv_at hl 4 rfl) ?_
      refine lv_iload_n hx hb (D_29 W_prog_6_method_25_code_192 10 rfl rfl) rfl (lv_at hl 2 rfl) ?_
      refine zadd hx hb (D_96 W_prog_6_method_25_code_192 11 rfl rfl) ?_
      refine lv_istore_n (lv' := [(1, .int (iI (l1 + l3))), (5, .int (iI l5)), (4, .int (iI l4)), (3, .int (iI l3)), (2, .int (iI l2)), (0, .ref (ad 4 l0 0))]) hx hb (D_60 W_prog_6_method_25_code_192 12 rfl rfl) rfl hl (by decide) rfl (fun ls hl => ?_)
      refine lv_iinc (v := iI (l2 + 1)) (lv' := [(2, .int (iI (l2 + 1))), (1, .int (iI (l1 + l3))), (5, .int (iI l5)), (4, .int (iI l4)), (3, .int (iI l3)), (0, .ref (ad 4 l0 0))]) hx hb d_6_25_205 hl (k := 4) rfl (iI_add _ 1) (by decide) rfl (fun ls hl => ?_)
      refine lv_goto (tgt := 4) hx hb (D_167 W_prog_6_method_25_code_192 16 rfl rfl rfl) (by decide) ?_
      exact hrec4 hf hZ hS (lv_sub hl [0, 1, 5] rfl)
    · replace hf := gneg hf h28
      refine lv_aload_n hx hb (D_42 W_prog_6_method_25_code_128 10 rfl rfl) rfl (lv_at hl 5 rfl) ?_
      refine lv_iload hx hb (D_21 W_prog_6_method_25_code_128 11 rfl rfl) (lv_at hl 0 rfl) ?_
      obtain ⟨g29, hf⟩ := gif hf
      obtain ⟨r30, F30, B30, hc30, hf⟩ := gbind hf
      refine va_calli (va_runV (As := [.int (iI l5)]) (rest := []) ⟨hx, hb, hml, hown, hts⟩ (c_Part_isRestNote (l := l) hc30) (cwV 1 hts (gdV k_5_104 k_5_106 ks_54 k_1_18 k_5_107) rfl rfl rfl (by decide +kernel) ⟨Nat.le_of_ble_eq_true rfl, Nat.le_of_ble_eq_true rfl⟩) (zPV X hZ hS (ci := 4) g29.1 g29.2 (r := (RX4, TX4, 13)) rfl [.int (iI l5)]) rfl rfl hl.1 rfl (lv_room (Nat.le_of_ble_eq_true rfl)) (D_182 W_prog_6_method_25_code_128 13 rfl rfl rfl) ⟨Nat.le_of_ble_eq_true rfl, Nat.le_of_ble_eq_true rfl⟩) hS (fun q _ h => zAin X hS q h) (zAin X hS) (fun p30 u30 t30 H30 locs30 ht30 hv30 hw30 hB30 hz30 hk30 hS30 => ?_)
      have hZ30 := zBack X ht30 hB30
      subst hw30
      obtain ⟨g31, hf⟩ := gif hf
      refine z0ne (tgt := 159) hx hb g31 (D_154 W_prog_6_method_25_code_128 16 rfl rfl rfl) (by decide) (fun h33 => ?_) (fun h33 => ?_)
      · replace hf := gneg hf h33
        exact b_Part_setStems_159 X hrec4 ih hf hZ30 hS30 (lv_sub hl [0, 1, 2, 3, 4, 5] rfl)
      · replace hf := gpos hf h33
        refine lv_aload_n hx hb (D_42 W_prog_6_method_25_code_128 19 rfl rfl) rfl (lv_at hl 5 rfl) ?_
        refine zget (ci := 4) (C := RX4) (T := TX4) (v := .ref (ad 4 l0 (8 + 1))) (k := 8) hx hb hts inW_4 hown hK hZ30 g29.1 g29.2 rfl (by decide) k_4_142 rfl (D_180 W_prog_6_method_25_code_128 20 rfl rfl rfl) ?_
        refine lv_iconst (v := iI 4) hx hb (D_7 W_prog_6_method_25_code_128 23 rfl rfl) rfl ?_
        refine zaldQ (t := 0) (ci := 4) (k := 8) hx hb hK rfl hZ30 g29.1 g29.2 rfl (Nat.le_of_ble_eq_true rfl) (by decide) (by decide) (D_50 W_prog_6_method_25_code_128 24 rfl rfl) ?_
        refine W.eq (g2 := F0 m 153 ls [.ref (ad 4 l0 (364 + 1))]) rfl ?_
        refine lv_iload hx hb (D_21 W_prog_6_method_25_code_128 25 rfl rfl) (lv_at hl 0 rfl) ?_
        obtain ⟨g34, hf⟩ := gif hf
        refine zald (ci := 4) (k := 364) hx hb hK rfl hZ30 g29.1 g29.2 rfl (Nat.le_of_ble_eq_true rfl) g34.1 g34.2 (D_46 W_prog_6_method_25_code_128 27 rfl rfl) ?_
        obtain ⟨g35, hf⟩ := gif hf
        refine z0ne (tgt := 163) hx hb g35 (D_154 W_prog_6_method_25_code_128 28 rfl rfl rfl) (by decide) (fun h36 => ?_) (fun h36 => ?_)
        · replace hf := gneg hf h36
          refine lv_iconst (v := iI 0) hx hb (D_3 W_prog_6_method_25_code_160 3 rfl rfl) rfl ?_
          exact b_Part_setStems_164 X hrec4 ih hf hZ30 hS30 (lv_sub hl [0, 1, 2, 3, 4, 5] rfl)
        · replace hf := gpos hf h36
          exact b_Part_setStems_159 X hrec4 ih hf hZ30 hS30 (lv_sub hl [0, 1, 2, 3, 4, 5] rfl)

def f_Part_setStems_118 (rec4 : Int → Int → Int → zF → zB → zO) (rec79 : Int → Int → Int → Int → Int → Int → zF → zB → zO) (K : zK) (l5 : Int) (l3 : Int) (l2 : Int) (l1 : Int) (l0 : Int) (s0 : Int) (s1 : Int) (F : zF) (B : zB) : zO := rec79 (l5 + 1) (s0 + s1) l3 l2 l1 l0 F B
set_option maxHeartbeats 4000000 in
set_option maxRecDepth 100000 in
theorem b_Part_setStems_118 {D : va_G} {ca : Nat → ClassId} {ad : Nat → Int → Nat → Nat} {L : List Nat} {aS vS : Nat → Nat} {A : Nat → Prop} {p : Program} {l : Launch} {e : Env} {s : State} {m : MethodId} {args : Array Value} {below : List Frame} {meth : Method} {c : Code} {K : zK} {r : Int} {F9 : zF} {B9 : zB} (X : zX D ca L aS vS A p s m args meth c prog_6_method_25_code 7 (Option.none : Option Jvm.ClassFile.FieldType) "StaveHouse$Part") {rec4 : Int → Int → Int → zF → zB → zO} {rec79 : Int → Int → Int → Int → Int → Int → zF → zB → zO} (hrec4 : ∀ {l2 : Int} {l1 : Int} {l0 : Int} {F : zF} {B : zB} {H : Heap} {locs : List Loc} {ls : Array Slot}, rec4 l2 l1 l0 F B = some (r, F9, B9) → zH D ca ad lnC K.2 L F B A H → va_S A s.heap H locs → lv_has ls 7 [(2, .int (iI l2)), (1, .int (iI l1)), (0, .ref (ad 4 l0 0))] → W p l e ({ frames := 2, cells := 0, slots := 0, locals := 36 } : Room) s m args below meth c H locs 0 0 (MQ below (Q_Part_setStems K D ca ad L r F9 B9 A) args s 0 0 A) (F0 m 4 ls [])) (hrec79 : ∀ {l5 : Int} {l4 : Int} {l3 : Int} {l2 : Int} {l1 : Int} {l0 : Int} {F : zF} {B : zB} {H : Heap} {locs : List Loc} {ls : Array Slot}, rec79 l5 l4 l3 l2 l1 l0 F B = some (r, F9, B9) → zH D ca ad lnC K.2 L F B A H → va_S A s.heap H locs → lv_has ls 7 [(5, .int (iI l5)), (4, .int (iI l4)), (3, .int (iI l3)), (2, .int (iI l2)), (1, .int (iI l1)), (0, .ref (ad 4 l0 0))] → W p l e ({ frames := 2, cells := 0, slots := 0, locals := 36 } : Room) s m args below meth c H locs 0 0 (MQ below (Q_Part_setStems K D ca ad L r F9 B9 A) args s 0 0 A) (F0 m 79 ls [])) {l5 : Int} {l3 : Int} {l2 : Int} {l1 : Int} {l0 : Int} {s0 : Int} {s1 : Int} {F : zF} {B : zB} {H : Heap} {locs : List Loc} {ls : Array Slot} (hf : f_Part_setStems_118 rec4 rec79 K l5 l3 l2 l1 l0 s0 s1 F B = some (r, F9, B9)) (hZ : zH D ca ad lnC K.2 L F B A H) (hS : va_S A s.heap H locs) (hl : lv_has ls 7 [(5, .int (iI l5)), (3, .int (iI l3)), (2, .int (iI l2)), (1, .int (iI l1)), (0, .ref (ad 4 l0 0))]) : W p l e ({ frames := 2, cells := 0, slots := 0, locals := 36 } : Room) s m args below meth c H locs 0 0 (MQ below (Q_Part_setStems K D ca ad L r F9 B9 A) args s 0 0 A) (F0 m 118 ls [.int (iI s1), .int (iI s0)]) := by
  obtain ⟨hx, hb, hr, hml, hown, hts, hlk, hK, hA, hL, hX⟩ := id X
  replace hf : (rec79 (l5 + 1) (s0 + s1) l3 l2 l1 l0 F B) = some (r, F9, B9) := hf
  refine zadd hx hb (D_96 W_prog_6_method_25_code_96 22 rfl rfl) ?_
  refine lv_istore (lv' := [(4, .int (iI (s0 + s1))), (5, .int (iI l5)), (3, .int (iI l3)), (2, .int (iI l2)), (1, .int (iI l1)), (0, .ref (ad 4 l0 0))]) hx hb (D_54 W_prog_6_method_25_code_96 23 rfl rfl) hl (by decide) rfl (fun ls hl => ?_)
  refine lv_iinc (v := iI (l5 + 1)) (lv' := [(5, .int (iI (l5 + 1))), (4, .int (iI (s0 + s1))), (3, .int (iI l3)), (2, .int (iI l2)), (1, .int (iI l1)), (0, .ref (ad 4 l0 0))]) hx hb d_6_25_121 hl (k := 1) rfl (iI_add _ 1) (by decide) rfl (fun ls hl => ?_)
  refine lv_goto (tgt := 79) hx hb (D_167 W_prog_6_method_25_code_96 28 rfl rfl rfl) (by decide) ?_
  exact hrec79 hf hZ hS (lv_sub hl [0, 1, 2, 3, 4, 5] rfl)

def f_Part_setStems_79 (rec4 : Int → Int → Int → zF → zB → zO) (K : zK) : Nat → Int → Int → Int → Int → Int → Int → zF → zB → zO
  | 0, _, _, _, _, _, _, _, _ => none
  | n + 1, l5, l4, l3, l2, l1, l0, F, B => if r32 l5 then if r32 (l1 + l3) then (if (l1 + l3) ≤ l5 then f_Part_setStems_130 rec4 K K.1 l1 l4 l3 l2 l1 l0 F B else if 0 ≤ l0 ∧ l0 < K.2 4 then zbind (f_Part_isRestNote K l0 l5 F B) (fun r21 F21 B21 => if r32 r21 then (if r21 = 0 then zbind (f_Part_leastHeight K l0 l5 F21 B21) (fun r24 F24 B24 => zbind (f_Part_greatestHeight K l0 l5 F24 B24) (fun r25 F25 B25 => f_Part_setStems_118 rec4 (f_Part_setStems_79 rec4 K n) K l5 l3 l2 l1 l0 l4 ((r24 + r25) - 8) F25 B25)) else f_Part_setStems_118 rec4 (f_Part_setStems_79 rec4 K n) K l5 l3 l2 l1 l0 l4 0 F21 B21) else none) else none) else none else none
set_option maxHeartbeats 4000000 in
set_option maxRecDepth 100000 in
theorem b_Part_setStems_79 {D : va_G} {ca : Nat → ClassId} {ad : Nat → Int → Nat → Nat} {L : List Nat} {aS vS : Nat → Nat} {A : Nat → Prop} {p : Program} {l : Launch} {e : Env} {s : State} {m : MethodId} {args : Array Value} {below : List Frame} {meth : Method} {c : Code} {K : zK} {r : Int} {F9 : zF} {B9 : zB} (X : zX D ca L aS vS A p s m args meth c prog_6_method_25_code 7 (Option.none : Option Jvm.ClassFile.FieldType) "StaveHouse$Part") {rec4 : Int → Int → Int → zF → zB → zO} (hrec4 : ∀ {l2 : Int} {l1 : Int} {l0 : Int} {F : zF} {B : zB} {H : Heap} {locs : List Loc} {ls : Array Slot}, rec4 l2 l1 l0 F B = some (r, F9, B9) → zH D ca ad lnC K.2 L F B A H → va_S A s.heap H locs → lv_has ls 7 [(2, .int (iI l2)), (1, .int (iI l1)), (0, .ref (ad 4 l0 0))] → W p l e ({ frames := 2, cells := 0, slots := 0, locals := 36 } : Room) s m args below meth c H locs 0 0 (MQ below (Q_Part_setStems K D ca ad L r F9 B9 A) args s 0 0 A) (F0 m 4 ls [])) : ∀ {n : Nat} {l5 : Int} {l4 : Int} {l3 : Int} {l2 : Int} {l1 : Int} {l0 : Int} {F : zF} {B : zB} {H : Heap} {locs : List Loc} {ls : Array Slot}, f_Part_setStems_79 rec4 K n l5 l4 l3 l2 l1 l0 F B = some (r, F9, B9) → zH D ca ad lnC K.2 L F B A H → va_S A s.heap H locs → lv_has ls 7 [(5, .int (iI l5)), (4, .int (iI l4)), (3, .int (iI l3)), (2, .int (iI l2)), (1, .int (iI l1)), (0, .ref (ad 4 l0 0))] → W p l e ({ frames := 2, cells := 0, slots := 0, locals := 36 } : Room) s m args below meth c H locs 0 0 (MQ below (Q_Part_setStems K D ca ad L r F9 B9 A) args s 0 0 A) (F0 m 79 ls []) := by
  obtain ⟨hx, hb, hr, hml, hown, hts, hlk, hK, hA, hL, hX⟩ := id X
  intro n
  induction n with
  | zero =>
    intros
    rename_i hf _ _ _
    cases hf
  | succ n ih =>
    intro l5 l4 l3 l2 l1 l0 F B H locs ls hf hZ hS hl
    replace hf : (if r32 l5 then if r32 (l1 + l3) then (if (l1 + l3) ≤ l5 then f_Part_setStems_130 rec4 K K.1 l1 l4 l3 l2 l1 l0 F B else if 0 ≤ l0 ∧ l0 < K.2 4 then zbind (f_Part_isRestNote K l0 l5 F B) (fun r21 F21 B21 => if r32 r21 then (if r21 = 0 then zbind (f_Part_leastHeight K l0 l5 F21 B21) (fun r24 F24 B24 => zbind (f_Part_greatestHeight K l0 l5 F24 B24) (fun r25 F25 B25 => f_Part_setStems_118 rec4 (f_Part_setStems_79 rec4 K n) K l5 l3 l2 l1 l0 l4 ((r24 + r25) - 8) F25 B25)) else f_Part_setStems_118 rec4 (f_Part_setStems_79 rec4 K n) K l5 l3 l2 l1 l0 l4 0 F21 B21) else none) else none) else none else none) = some (r, F9, B9) := hf
    refine lv_iload hx hb (D_21 W_prog_6_method_25_code_64 15 rfl rfl) (lv_at hl 0 rfl) ?_
    refine lv_iload_n hx hb (D_27 W_prog_6_method_25_code_64 17 rfl rfl) rfl (lv_at hl 4 rfl) ?_
    refine lv_iload_n hx hb (D_29 W_prog_6_method_25_code_64 18 rfl rfl) rfl (lv_at hl 2 rfl) ?_
    refine zadd hx hb (D_96 W_prog_6_method_25_code_64 19 rfl rfl) ?_
    obtain ⟨g17, hf⟩ := gif hf
    obtain ⟨g18, hf⟩ := gif hf
    refine zge (tgt := 127) hx hb g17 g18 (D_162 W_prog_6_method_25_code_64 20 rfl rfl rfl) (by decide) (fun h19 => ?_) (fun h19 => ?_)
    · replace hf := gpos hf h19
      refine lv_iload_n hx hb (D_27 W_prog_6_method_25_code_96 31 rfl rfl) rfl (lv_at hl 4 rfl) ?_
      refine lv_istore (lv' := [(5, .int (iI l1)), (4, .int (iI l4)), (3, .int (iI l3)), (2, .int (iI l2)), (1, .int (iI l1)), (0, .ref (ad 4 l0 0))]) hx hb (D_54 W_prog_6_method_25_code_128 0 rfl rfl) hl (by decide) rfl (fun ls hl => ?_)
      exact b_Part_setStems_130 X hrec4 hf hZ hS (lv_sub hl [0, 1, 2, 3, 4, 5] rfl)
    · replace hf := gneg hf h19
      refine lv_iload hx hb (D_21 W_prog_6_method_25_code_64 23 rfl rfl) (lv_at hl 1 rfl) ?_
      refine lv_aload_n hx hb (D_42 W_prog_6_method_25_code_64 25 rfl rfl) rfl (lv_at hl 5 rfl) ?_
      refine lv_iload hx hb (D_21 W_prog_6_method_25_code_64 26 rfl rfl) (lv_at hl 0 rfl) ?_
      obtain ⟨g20, hf⟩ := gif hf
      obtain ⟨r21, F21, B21, hc21, hf⟩ := gbind hf
      refine va_calli (va_runV (As := [.int (iI l5)]) (rest := [.int (iI l4)]) ⟨hx, hb, hml, hown, hts⟩ (c_Part_isRestNote (l := l) hc21) (cwV 1 hts (gdV k_5_104 k_5_106 ks_54 k_1_18 k_5_107) rfl rfl rfl (by decide +kernel) ⟨Nat.le_of_ble_eq_true rfl, Nat.le_of_ble_eq_true rfl⟩) (zPV X hZ hS (ci := 4) g20.1 g20.2 (r := (RX4, TX4, 13)) rfl [.int (iI l5)]) rfl rfl hl.1 rfl (lv_room (Nat.le_of_ble_eq_true rfl)) (D_182 W_prog_6_method_25_code_64 28 rfl rfl rfl) ⟨Nat.le_of_ble_eq_true rfl, Nat.le_of_ble_eq_true rfl⟩) hS (fun q _ h => zAin X hS q h) (zAin X hS) (fun p21 u21 t21 H21 locs21 ht21 hv21 hw21 hB21 hz21 hk21 hS21 => ?_)
      have hZ21 := zBack X ht21 hB21
      subst hw21
      obtain ⟨g22, hf⟩ := gif hf
      refine z0eq (tgt := 102) hx hb g22 (D_153 W_prog_6_method_25_code_64 31 rfl rfl rfl) (by decide) (fun h23 => ?_) (fun h23 => ?_)
      · replace hf := gpos hf h23
        refine lv_aload_n hx hb (D_42 W_prog_6_method_25_code_96 6 rfl rfl) rfl (lv_at hl 5 rfl) ?_
        refine lv_iload hx hb (D_21 W_prog_6_method_25_code_96 7 rfl rfl) (lv_at hl 0 rfl) ?_
        obtain ⟨r24, F24, B24, hc24, hf⟩ := gbind hf
        refine va_calli (va_runV (As := [.int (iI l5)]) (rest := [.int (iI l4)]) ⟨hx, hb, hml, hown, hts⟩ (c_Part_leastHeight (l := l) hc24) (cwV 1 hts (gdV k_5_140 k_5_142 ks_60 k_1_18 k_5_143) rfl rfl rfl (by decide +kernel) ⟨Nat.le_of_ble_eq_true rfl, Nat.le_of_ble_eq_true rfl⟩) (zPV X hZ21 hS21 (ci := 4) g20.1 g20.2 (r := (RX4, TX4, 13)) rfl [.int (iI l5)]) rfl rfl hl.1 rfl (lv_room (Nat.le_of_ble_eq_true rfl)) (D_182 W_prog_6_method_25_code_96 9 rfl rfl rfl) ⟨Nat.le_of_ble_eq_true rfl, Nat.le_of_ble_eq_true rfl⟩) hS21 (fun q _ h => zAin X hS21 q h) (zAin X hS21) (fun p24 u24 t24 H24 locs24 ht24 hv24 hw24 hB24 hz24 hk24 hS24 => ?_)
        have hZ24 := zBack X ht24 hB24
        subst hw24
        refine lv_aload_n hx hb (D_42 W_prog_6_method_25_code_96 12 rfl rfl) rfl (lv_at hl 5 rfl) ?_
        refine lv_iload hx hb (D_21 W_prog_6_method_25_code_96 13 rfl rfl) (lv_at hl 0 rfl) ?_
        obtain ⟨r25, F25, B25, hc25, hf⟩ := gbind hf
        refine va_calli (va_runV (As := [.int (iI l5)]) (rest := [.int (iI r24), .int (iI l4)]) ⟨hx, hb, hml, hown, hts⟩ (c_Part_greatestHeight (l := l) hc25) (cwV 1 hts (gdV k_5_134 k_5_136 ks_59 k_1_18 k_5_137) rfl rfl rfl (by decide +kernel) ⟨Nat.le_of_ble_eq_true rfl, Nat.le_of_ble_eq_true rfl⟩) (zPV X hZ24 hS24 (ci := 4) g20.1 g20.2 (r := (RX4, TX4, 13)) rfl [.int (iI l5)]) rfl rfl hl.1 rfl (lv_room (Nat.le_of_ble_eq_true rfl)) (D_182 W_prog_6_method_25_code_96 15 rfl rfl rfl) ⟨Nat.le_of_ble_eq_true rfl, Nat.le_of_ble_eq_true rfl⟩) hS24 (fun q _ h => zAin X hS24 q h) (zAin X hS24) (fun p25 u25 t25 H25 locs25 ht25 hv25 hw25 hB25 hz25 hk25 hS25 => ?_)
        have hZ25 := zBack X ht25 hB25
        subst hw25
        refine zadd hx hb (D_96 W_prog_6_method_25_code_96 18 rfl rfl) ?_
        refine lv_bipush (v := iI 8) hx hb (D_16 W_prog_6_method_25_code_96 19 rfl rfl rfl) (by decide) ?_
        refine zsub hx hb (D_100 W_prog_6_method_25_code_96 21 rfl rfl) ?_
        exact b_Part_setStems_118 X hrec4 ih hf hZ25 hS25 (lv_sub hl [0, 2, 3, 4, 5] rfl)
      · replace hf := gneg hf h23
        refine lv_iconst (v := iI 0) hx hb (D_3 W_prog_6_method_25_code_96 2 rfl rfl) rfl ?_
        refine lv_goto (tgt := 118) hx hb (D_167 W_prog_6_method_25_code_96 3 rfl rfl rfl) (by decide) ?_
        exact b_Part_setStems_118 X hrec4 ih hf hZ21 hS21 (lv_sub hl [0, 2, 3, 4, 5] rfl)

def f_Part_setStems_73 (rec4 : Int → Int → Int → zF → zB → zO) (K : zK) (l3 : Int) (l2 : Int) (l1 : Int) (l0 : Int) (F : zF) (B : zB) : zO := f_Part_setStems_79 rec4 K K.1 l1 0 l3 l2 l1 l0 F B
set_option maxHeartbeats 4000000 in
set_option maxRecDepth 100000 in
theorem b_Part_setStems_73 {D : va_G} {ca : Nat → ClassId} {ad : Nat → Int → Nat → Nat} {L : List Nat} {aS vS : Nat → Nat} {A : Nat → Prop} {p : Program} {l : Launch} {e : Env} {s : State} {m : MethodId} {args : Array Value} {below : List Frame} {meth : Method} {c : Code} {K : zK} {r : Int} {F9 : zF} {B9 : zB} (X : zX D ca L aS vS A p s m args meth c prog_6_method_25_code 7 (Option.none : Option Jvm.ClassFile.FieldType) "StaveHouse$Part") {rec4 : Int → Int → Int → zF → zB → zO} (hrec4 : ∀ {l2 : Int} {l1 : Int} {l0 : Int} {F : zF} {B : zB} {H : Heap} {locs : List Loc} {ls : Array Slot}, rec4 l2 l1 l0 F B = some (r, F9, B9) → zH D ca ad lnC K.2 L F B A H → va_S A s.heap H locs → lv_has ls 7 [(2, .int (iI l2)), (1, .int (iI l1)), (0, .ref (ad 4 l0 0))] → W p l e ({ frames := 2, cells := 0, slots := 0, locals := 36 } : Room) s m args below meth c H locs 0 0 (MQ below (Q_Part_setStems K D ca ad L r F9 B9 A) args s 0 0 A) (F0 m 4 ls [])) {l3 : Int} {l2 : Int} {l1 : Int} {l0 : Int} {F : zF} {B : zB} {H : Heap} {locs : List Loc} {ls : Array Slot} (hf : f_Part_setStems_73 rec4 K l3 l2 l1 l0 F B = some (r, F9, B9)) (hZ : zH D ca ad lnC K.2 L F B A H) (hS : va_S A s.heap H locs) (hl : lv_has ls 7 [(3, .int (iI l3)), (2, .int (iI l2)), (1, .int (iI l1)), (0, .ref (ad 4 l0 0))]) : W p l e ({ frames := 2, cells := 0, slots := 0, locals := 36 } : Room) s m args below meth c H locs 0 0 (MQ below (Q_Part_setStems K D ca ad L r F9 B9 A) args s 0 0 A) (F0 m 73 ls []) := by
  obtain ⟨hx, hb, hr, hml, hown, hts, hlk, hK, hA, hL, hX⟩ := id X
  replace hf : (f_Part_setStems_79 rec4 K K.1 l1 0 l3 l2 l1 l0 F B) = some (r, F9, B9) := hf
  refine lv_iconst (v := iI 0) hx hb (D_3 W_prog_6_method_25_code_64 9 rfl rfl) rfl ?_
  refine lv_istore (lv' := [(4, .int (iI 0)), (3, .int (iI l3)), (2, .int (iI l2)), (1, .int (iI l1)), (0, .ref (ad 4 l0 0))]) hx hb (D_54 W_prog_6_method_25_code_64 10 rfl rfl) hl (by decide) rfl (fun ls hl => ?_)
  refine lv_iload_n hx hb (D_27 W_prog_6_method_25_code_64 12 rfl rfl) rfl (lv_at hl 3 rfl) ?_
  refine lv_istore (lv' := [(5, .int (iI l1)), (4, .int (iI 0)), (3, .int (iI l3)), (2, .int (iI l2)), (1, .int (iI l1)), (0, .ref (ad 4 l0 0))]) hx hb (D_54 W_prog_6_method_25_code_64 13 rfl rfl) hl (by decide) rfl (fun ls hl => ?_)
  exact b_Part_setStems_79 X hrec4 hf hZ hS (lv_sub hl [0, 1, 2, 3, 4, 5] rfl)

def f_Part_setStems_21 (rec4 : Int → Int → Int → zF → zB → zO) (K : zK) : Nat → Int → Int → Int → Int → zF → zB → zO
  | 0, _, _, _, _, _, _ => none
  | n + 1, l3, l2, l1, l0, F, B => if 0 ≤ l0 ∧ l0 < K.2 4 then if 0 ≤ l1 ∧ l1 < 800 then if r32 (B 4 l0 369 l1) then (if (B 4 l0 369 l1) = (-1) then f_Part_setStems_73 rec4 K l3 l2 l1 l0 F B else if r32 (l1 + l3) then if r32 (F 4 l0 10) then (if (F 4 l0 10) ≤ (l1 + l3) then f_Part_setStems_73 rec4 K l3 l2 l1 l0 F B else if 0 ≤ (l1 + l3) ∧ (l1 + l3) < 800 then if r32 (B 4 l0 369 (l1 + l3)) then (if (B 4 l0 369 (l1 + l3)) = (B 4 l0 369 l1) then f_Part_setStems_21 rec4 K n (l3 + 1) l2 l1 l0 F B else f_Part_setStems_73 rec4 K l3 l2 l1 l0 F B) else none else none) else none else none) else none else none else none
set_option maxHeartbeats 4000000 in
set_option maxRecDepth 100000 in
theorem b_Part_setStems_21 {D : va_G} {ca : Nat → ClassId} {ad : Nat → Int → Nat → Nat} {L : List Nat} {aS vS : Nat → Nat} {A : Nat → Prop} {p : Program} {l : Launch} {e : Env} {s : State} {m : MethodId} {args : Array Value} {below : List Frame} {meth : Method} {c : Code} {K : zK} {r : Int} {F9 : zF} {B9 : zB} (X : zX D ca L aS vS A p s m args meth c prog_6_method_25_code 7 (Option.none : Option Jvm.ClassFile.FieldType) "StaveHouse$Part") {rec4 : Int → Int → Int → zF → zB → zO} (hrec4 : ∀ {l2 : Int} {l1 : Int} {l0 : Int} {F : zF} {B : zB} {H : Heap} {locs : List Loc} {ls : Array Slot}, rec4 l2 l1 l0 F B = some (r, F9, B9) → zH D ca ad lnC K.2 L F B A H → va_S A s.heap H locs → lv_has ls 7 [(2, .int (iI l2)), (1, .int (iI l1)), (0, .ref (ad 4 l0 0))] → W p l e ({ frames := 2, cells := 0, slots := 0, locals := 36 } : Room) s m args below meth c H locs 0 0 (MQ below (Q_Part_setStems K D ca ad L r F9 B9 A) args s 0 0 A) (F0 m 4 ls [])) : ∀ {n : Nat} {l3 : Int} {l2 : Int} {l1 : Int} {l0 : Int} {F : zF} {B : zB} {H : Heap} {locs : List Loc} {ls : Array Slot}, f_Part_setStems_21 rec4 K n l3 l2 l1 l0 F B = some (r, F9, B9) → zH D ca ad lnC K.2 L F B A H → va_S A s.heap H locs → lv_has ls 7 [(3, .int (iI l3)), (2, .int (iI l2)), (1, .int (iI l1)), (0, .ref (ad 4 l0 0))] → W p l e ({ frames := 2, cells := 0, slots := 0, locals := 36 } : Room) s m args below meth c H locs 0 0 (MQ below (Q_Part_setStems K D ca ad L r F9 B9 A) args s 0 0 A) (F0 m 21 ls []) := by
  obtain ⟨hx, hb, hr, hml, hown, hts, hlk, hK, hA, hL, hX⟩ := id X
  intro n
  induction n with
  | zero =>
    intros
    rename_i hf _ _ _
    cases hf
  | succ n ih =>
    intro l3 l2 l1 l0 F B H locs ls hf hZ hS hl
    replace hf : (if 0 ≤ l0 ∧ l0 < K.2 4 then if 0 ≤ l1 ∧ l1 < 800 then if r32 (B 4 l0 369 l1) then (if (B 4 l0 369 l1) = (-1) then f_Part_setStems_73 rec4 K l3 l2 l1 l0 F B else if r32 (l1 + l3) then if r32 (F 4 l0 10) then (if (F 4 l0 10) ≤ (l1 + l3) then f_Part_setStems_73 rec4 K l3 l2 l1 l0 F B else if 0 ≤ (l1 + l3) ∧ (l1 + l3) < 800 then if r32 (B 4 l0 369 (l1 + l3)) then (if (B 4 l0 369 (l1 + l3)) = (B 4 l0 369 l1) then f_Part_setStems_21 rec4 K n (l3 + 1) l2 l1 l0 F B else f_Part_setStems_73 rec4 K l3 l2 l1 l0 F B) else none else none) else none else none) else none else none else none) = some (r, F9, B9) := hf
    refine lv_aload_n hx hb (D_42 W_prog_6_method_25_code_0 21 rfl rfl) rfl (lv_at hl 3 rfl) ?_
    obtain ⟨g7, hf⟩ := gif hf
    refine zget (ci := 4) (C := RX4) (T := TX4) (v := .ref (ad 4 l0 (8 + 1))) (k := 8) hx hb hts inW_4 hown hK hZ g7.1 g7.2 rfl (by decide) k_4_142 rfl (D_180 W_prog_6_method_25_code_0 22 rfl rfl rfl) ?_
    refine lv_bipush (v := iI 9) hx hb (D_16 W_prog_6_method_25_code_0 25 rfl rfl rfl) (by decide) ?_
    refine zaldQ (t := 0) (ci := 4) (k := 8) hx hb hK rfl hZ g7.1 g7.2 rfl (Nat.le_of_ble_eq_true rfl) (by decide) (by decide) (D_50 W_prog_6_method_25_code_0 27 rfl rfl) ?_
    refine W.eq (g2 := F0 m 28 ls [.ref (ad 4 l0 (369 + 1))]) rfl ?_
    refine lv_iload_n hx hb (D_27 W_prog_6_method_25_code_0 28 rfl rfl) rfl (lv_at hl 2 rfl) ?_
    obtain ⟨g8, hf⟩ := gif hf
    refine zald (ci := 4) (k := 369) hx hb hK rfl hZ g7.1 g7.2 rfl (Nat.le_of_ble_eq_true rfl) g8.1 g8.2 (D_46 W_prog_6_method_25_code_0 29 rfl rfl) ?_
    refine lv_iconst (v := iI (-1)) hx hb (D_2 W_prog_6_method_25_code_0 30 rfl rfl) rfl ?_
    obtain ⟨g9, hf⟩ := gif hf
    refine zeq (tgt := 73) hx hb g9 (by decide) (D_159 W_prog_6_method_25_code_0 31 rfl rfl rfl) (by decide) (fun h10 => ?_) (fun h10 => ?_)
    · replace hf := gpos hf h10
      exact b_Part_setStems_73 X hrec4 hf hZ hS (lv_sub hl [0, 1, 2, 3] rfl)
    · replace hf := gneg hf h10
      refine lv_iload_n hx hb (D_27 W_prog_6_method_25_code_32 2 rfl rfl) rfl (lv_at hl 2 rfl) ?_
      refine lv_iload_n hx hb (D_29 W_prog_6_method_25_code_32 3 rfl rfl) rfl (lv_at hl 0 rfl) ?_
      refine zadd hx hb (D_96 W_prog_6_method_25_code_32 4 rfl rfl) ?_
      refine lv_aload_n hx hb (D_42 W_prog_6_method_25_code_32 5 rfl rfl) rfl (lv_at hl 3 rfl) ?_
      refine zget (ci := 4) (C := RX4) (T := TX4) (v := .int (iI (F 4 l0 10))) (k := 10) hx hb hts inW_4 hown hK hZ g7.1 g7.2 rfl (by decide) k_4_148 rfl (D_180 W_prog_6_method_25_code_32 6 rfl rfl rfl) ?_
      obtain ⟨g11, hf⟩ := gif hf
      obtain ⟨g12, hf⟩ := gif hf
      refine zge (tgt := 73) hx hb g11 g12 (D_162 W_prog_6_method_25_code_32 9 rfl rfl rfl) (by decide) (fun h13 => ?_) (fun h13 => ?_)
      · replace hf := gpos hf h13
        exact b_Part_setStems_73 X hrec4 hf hZ hS (lv_sub hl [0, 1, 2, 3] rfl)
      · replace hf := gneg hf h13
        refine lv_aload_n hx hb (D_42 W_prog_6_method_25_code_32 12 rfl rfl) rfl (lv_at hl 3 rfl) ?_
        refine zget (ci := 4) (C := RX4) (T := TX4) (v := .ref (ad 4 l0 (8 + 1))) (k := 8) hx hb hts inW_4 hown hK hZ g7.1 g7.2 rfl (by decide) k_4_142 rfl (D_180 W_prog_6_method_25_code_32 13 rfl rfl rfl) ?_
        refine lv_bipush (v := iI 9) hx hb (D_16 W_prog_6_method_25_code_32 16 rfl rfl rfl) (by decide) ?_
        refine zaldQ (t := 0) (ci := 4) (k := 8) hx hb hK rfl hZ g7.1 g7.2 rfl (Nat.le_of_ble_eq_true rfl) (by decide) (by decide) (D_50 W_prog_6_method_25_code_32 18 rfl rfl) ?_
        refine W.eq (g2 := F0 m 51 ls [.ref (ad 4 l0 (369 + 1))]) rfl ?_
        refine lv_iload_n hx hb (D_27 W_prog_6_method_25_code_32 19 rfl rfl) rfl (lv_at hl 2 rfl) ?_
        refine lv_iload_n hx hb (D_29 W_prog_6_method_25_code_32 20 rfl rfl) rfl (lv_at hl 0 rfl) ?_
        refine zadd hx hb (D_96 W_prog_6_method_25_code_32 21 rfl rfl) ?_
        obtain ⟨g14, hf⟩ := gif hf
        refine zald (ci := 4) (k := 369) hx hb hK rfl hZ g7.1 g7.2 rfl (Nat.le_of_ble_eq_true rfl) g14.1 g14.2 (D_46 W_prog_6_method_25_code_32 22 rfl rfl) ?_
        refine lv_aload_n hx hb (D_42 W_prog_6_method_25_code_32 23 rfl rfl) rfl (lv_at hl 3 rfl) ?_
        refine zget (ci := 4) (C := RX4) (T := TX4) (v := .ref (ad 4 l0 (8 + 1))) (k := 8) hx hb hts inW_4 hown hK hZ g7.1 g7.2 rfl (by decide) k_4_142 rfl (D_180 W_prog_6_method_25_code_32 24 rfl rfl rfl) ?_
        refine lv_bipush (v := iI 9) hx hb (D_16 W_prog_6_method_25_code_32 27 rfl rfl rfl) (by decide) ?_
        refine zaldQ (t := 0) (ci := 4) (k := 8) hx hb hK rfl hZ g7.1 g7.2 rfl (Nat.le_of_ble_eq_true rfl) (by decide) (by decide) (D_50 W_prog_6_method_25_code_32 29 rfl rfl) ?_
        refine W.eq (g2 := F0 m 62 ls [.ref (ad 4 l0 (369 + 1)), .int (iI (B 4 l0 369 (l1 + l3)))]) rfl ?_
        refine lv_iload_n hx hb (D_27 W_prog_6_method_25_code_32 30 rfl rfl) rfl (lv_at hl 2 rfl) ?_
        refine zald (ci := 4) (k := 369) hx hb hK rfl hZ g7.1 g7.2 rfl (Nat.le_of_ble_eq_true rfl) g8.1 g8.2 (D_46 W_prog_6_method_25_code_32 31 rfl rfl) ?_
        obtain ⟨g15, hf⟩ := gif hf
        refine zne (tgt := 73) hx hb g15 g9 (D_160 W_prog_6_method_25_code_64 0 rfl rfl rfl) (by decide) (fun h16 => ?_) (fun h16 => ?_)
        · replace hf := gneg hf h16
          exact b_Part_setStems_73 X hrec4 hf hZ hS (lv_sub hl [0, 1, 2, 3] rfl)
        · replace hf := gpos hf h16
          refine lv_iinc (v := iI (l3 + 1)) (lv' := [(3, .int (iI (l3 + 1))), (2, .int (iI l2)), (1, .int (iI l1)), (0, .ref (ad 4 l0 0))]) hx hb d_6_25_67 hl (k := 0) rfl (iI_add _ 1) (by decide) rfl (fun ls hl => ?_)
          refine lv_goto (tgt := 21) hx hb (D_167 W_prog_6_method_25_code_64 6 rfl rfl rfl) (by decide) ?_
          exact ih hf hZ hS (lv_sub hl [0, 1, 2, 3] rfl)

def f_Part_setStems_4 (K : zK) : Nat → Int → Int → Int → zF → zB → zO
  | 0, _, _, _, _, _ => none
  | n + 1, l2, l1, l0, F, B => if r32 l2 then (if 800 ≤ l2 then f_Part_setStems_211 K F B else if 0 ≤ l0 ∧ l0 < K.2 4 then if r32 l1 then if r32 (F 4 l0 10) then (if (F 4 l0 10) ≤ l1 then f_Part_setStems_211 K F B else f_Part_setStems_21 (f_Part_setStems_4 K n) K K.1 1 l2 l1 l0 F B) else none else none else none) else none
set_option maxHeartbeats 4000000 in
set_option maxRecDepth 100000 in
theorem b_Part_setStems_4 {D : va_G} {ca : Nat → ClassId} {ad : Nat → Int → Nat → Nat} {L : List Nat} {aS vS : Nat → Nat} {A : Nat → Prop} {p : Program} {l : Launch} {e : Env} {s : State} {m : MethodId} {args : Array Value} {below : List Frame} {meth : Method} {c : Code} {K : zK} {r : Int} {F9 : zF} {B9 : zB} (X : zX D ca L aS vS A p s m args meth c prog_6_method_25_code 7 (Option.none : Option Jvm.ClassFile.FieldType) "StaveHouse$Part") : ∀ {n : Nat} {l2 : Int} {l1 : Int} {l0 : Int} {F : zF} {B : zB} {H : Heap} {locs : List Loc} {ls : Array Slot}, f_Part_setStems_4 K n l2 l1 l0 F B = some (r, F9, B9) → zH D ca ad lnC K.2 L F B A H → va_S A s.heap H locs → lv_has ls 7 [(2, .int (iI l2)), (1, .int (iI l1)), (0, .ref (ad 4 l0 0))] → W p l e ({ frames := 2, cells := 0, slots := 0, locals := 36 } : Room) s m args below meth c H locs 0 0 (MQ below (Q_Part_setStems K D ca ad L r F9 B9 A) args s 0 0 A) (F0 m 4 ls []) := by
  obtain ⟨hx, hb, hr, hml, hown, hts, hlk, hK, hA, hL, hX⟩ := id X
  intro n
  induction n with
  | zero =>
    intros
    rename_i hf _ _ _
    cases hf
  | succ n ih =>
    intro l2 l1 l0 F B H locs ls hf hZ hS hl
    replace hf : (if r32 l2 then (if 800 ≤ l2 then f_Part_setStems_211 K F B else if 0 ≤ l0 ∧ l0 < K.2 4 then if r32 l1 then if r32 (F 4 l0 10) then (if (F 4 l0 10) ≤ l1 then f_Part_setStems_211 K F B else f_Part_setStems_21 (f_Part_setStems_4 K n) K K.1 1 l2 l1 l0 F B) else none else none else none) else none) = some (r, F9, B9) := hf
    refine lv_iload_n hx hb (D_28 W_prog_6_method_25_code_0 4 rfl rfl) rfl (lv_at hl 0 rfl) ?_
    refine lv_sipush (v := iI 800) hx hb (D_17 W_prog_6_method_25_code_0 5 rfl rfl rfl) (by decide) ?_
    obtain ⟨g1, hf⟩ := gif hf
    refine zge (tgt := 211) hx hb g1 (by decide) (D_162 W_prog_6_method_25_code_0 8 rfl rfl rfl) (by decide) (fun h2 => ?_) (fun h2 => ?_)
    · replace hf := gpos hf h2
      exact b_Part_setStems_211 X hf hZ hS (lv_sub hl [] rfl)
    · replace hf := gneg hf h2
      refine lv_iload_n hx hb (D_27 W_prog_6_method_25_code_0 11 rfl rfl) rfl (lv_at hl 1 rfl) ?_
      refine lv_aload_n hx hb (D_42 W_prog_6_method_25_code_0 12 rfl rfl) rfl (lv_at hl 2 rfl) ?_
      obtain ⟨g3, hf⟩ := gif hf
      refine zget (ci := 4) (C := RX4) (T := TX4) (v := .int (iI (F 4 l0 10))) (k := 10) hx hb hts inW_4 hown hK hZ g3.1 g3.2 rfl (by decide) k_4_148 rfl (D_180 W_prog_6_method_25_code_0 13 rfl rfl rfl) ?_
      obtain ⟨g4, hf⟩ := gif hf
      obtain ⟨g5, hf⟩ := gif hf
      refine zge (tgt := 211) hx hb g4 g5 (D_162 W_prog_6_method_25_code_0 16 rfl rfl rfl) (by decide) (fun h6 => ?_) (fun h6 => ?_)
      · replace hf := gpos hf h6
        exact b_Part_setStems_211 X hf hZ hS (lv_sub hl [] rfl)
      · replace hf := gneg hf h6
        refine lv_iconst (v := iI 1) hx hb (D_4 W_prog_6_method_25_code_0 19 rfl rfl) rfl ?_
        refine lv_istore_n (lv' := [(3, .int (iI 1)), (2, .int (iI l2)), (1, .int (iI l1)), (0, .ref (ad 4 l0 0))]) hx hb (D_62 W_prog_6_method_25_code_0 20 rfl rfl) rfl hl (by decide) rfl (fun ls hl => ?_)
        exact b_Part_setStems_21 X ih hf hZ hS (lv_sub hl [0, 1, 2, 3] rfl)

def f_Part_setStems (K : zK) (l0 : Int) (F : zF) (B : zB) : zO := f_Part_setStems_4 K K.1 0 0 l0 F B
set_option maxHeartbeats 4000000 in
set_option maxRecDepth 100000 in
theorem c_Part_setStems {l : Launch} {D : va_G} {ca : Nat → ClassId} {ad : Nat → Int → Nat → Nat} {L : List Nat} {aS vS : Nat → Nat} {sz : Nat} {K : zK}  {l0 : Int} {F F9 : zF} {B B9 : zB} {r : Int} (hf : f_Part_setStems K l0 F B = some (r, F9, B9)) : Met l ({ cls := "StaveHouse$Part", name := "setStems", desc := "()V" } : Jvm.MethodName) (Cond.code ({ cls := "StaveHouse$Part", name := "setStems", desc := "()V" } : Jvm.MethodName) prog_6_method_25_code 7 (Option.none : Option Jvm.ClassFile.FieldType) :: wAll) ({ frames := 2, cells := 0, slots := 0, locals := 36 } : Room) (va_Pc [.ref (ad 4 l0 0)] (zPre D ca ad lnC K.2 L aS vS F B sz)) (Q_Part_setStems K D ca ad L r F9 B9 (zA L sz)) 0 0 (zA L sz) := by
  refine zMet (Qc := Q_Part_setStems K D ca ad L r F9 B9) (lv := [(0, .ref (ad 4 l0 0))]) (by decide) (Nat.le_of_ble_eq_true rfl) rfl (fun A p e s m below meth c ls X hZ hS hl => ?_)
  obtain ⟨hx, hb, hr, hml, hown, hts, hlk, hK, hA, hL, hX⟩ := id X
  replace hf : (f_Part_setStems_4 K K.1 0 0 l0 F B) = some (r, F9, B9) := hf
  refine lv_iconst (v := iI 0) hx hb (D_3 W_prog_6_method_25_code_0 0 rfl rfl) rfl ?_
  refine lv_istore_n (lv' := [(1, .int (iI 0)), (0, .ref (ad 4 l0 0))]) hx hb (D_60 W_prog_6_method_25_code_0 1 rfl rfl) rfl hl (by decide) rfl (fun ls hl => ?_)
  refine lv_iconst (v := iI 0) hx hb (D_3 W_prog_6_method_25_code_0 2 rfl rfl) rfl ?_
  refine lv_istore_n (lv' := [(2, .int (iI 0)), (1, .int (iI 0)), (0, .ref (ad 4 l0 0))]) hx hb (D_61 W_prog_6_method_25_code_0 3 rfl rfl) rfl hl (by decide) rfl (fun ls hl => ?_)
  exact b_Part_setStems_4 X hf hZ hS (lv_sub hl [0, 1, 2] rfl)

