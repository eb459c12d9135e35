theorem k_2_185 : (Jvm.Cond.fieldLink "StaveHouse$Piece" (11 : Nat) "StaveHouse$Piece" "parts" "[LStaveHouse$Part;") ∈ wAll := wA_2 (j := 185) rfl rfl
theorem k_4_115 : (Jvm.Cond.fieldLink "StaveHouse$Piece" (68 : Nat) "StaveHouse$Part" "word" "J") ∈ wAll := wA_4 (j := 115) rfl rfl
theorem k_4_135 : (Jvm.Cond.fieldLink "StaveHouse$Part" (31 : Nat) "StaveHouse$Part" "eventCount" "I") ∈ wAll := wA_4 (j := 135) rfl rfl
theorem k_4_148 : (Jvm.Cond.fieldLink "StaveHouse$Part" (35 : Nat) "StaveHouse$Part" "noteCount" "I") ∈ wAll := wA_4 (j := 148) rfl rfl
theorem k_4_140 : (Jvm.Cond.fieldLink "StaveHouse$Part" (38 : Nat) "StaveHouse$Part" "endPlace" "J") ∈ wAll := wA_4 (j := 140) rfl rfl
theorem k_1_192 : (Jvm.Cond.fieldLink "StaveHouse$Walker" (32 : Nat) "StaveHouse$Walker" "wrong" "I") ∈ wAll := wA_1 (j := 192) rfl rfl
theorem k_4_193 : (Jvm.Cond.constantLong "StaveHouse$Piece" (72 : Nat) (812851200 : Int64)) ∈ wAll := wA_4 (j := 193) rfl rfl
theorem k_4_194 : (Jvm.Cond.methodLink "StaveHouse$Piece" (74 : Nat) ({ cls := "java/lang/Math", name := "max", desc := "(II)I" } : Jvm.MethodName)) ∈ wAll := wA_4 (j := 194) rfl rfl
theorem k_1_39 : (Jvm.Cond.static ({ cls := "java/lang/Math", name := "max", desc := "(II)I" } : Jvm.MethodName)) ∈ wAll := wA_1 (j := 39) rfl rfl
theorem k_1_40 : (Jvm.Cond.code ({ cls := "java/lang/Math", name := "max", desc := "(II)I" } : Jvm.MethodName) prog_20_method_65_code (2 : Nat) (Option.some Jvm.ClassFile.FieldType.int)) ∈ wAll := wA_1 (j := 40) rfl rfl
theorem k_4_220 : (Jvm.Cond.fieldLink "StaveHouse$Walker" (145 : Nat) "StaveHouse$Walker" "PRIMES" "[I") ∈ wAll := wA_4 (j := 220) rfl rfl
theorem k_1_204 : (Jvm.Cond.fieldLink "StaveHouse$Walker" (9 : Nat) "StaveHouse$Walker" "powers" "[I") ∈ wAll := wA_1 (j := 204) rfl rfl
theorem k_2_48 : (Jvm.Cond.fieldLink "StaveHouse$Event" (18 : Nat) "StaveHouse$Event" "count" "I") ∈ wAll := wA_2 (j := 48) rfl rfl
theorem k_2_57 : (Jvm.Cond.fieldLink "StaveHouse$Event" (9 : Nat) "StaveHouse$Event" "steps" "[I") ∈ wAll := wA_2 (j := 57) rfl rfl
theorem k_2_63 : (Jvm.Cond.fieldLink "StaveHouse$Event" (15 : Nat) "StaveHouse$Event" "alterations" "[I") ∈ wAll := wA_2 (j := 63) rfl rfl
theorem k_4_130 : (Jvm.Cond.fieldLink "StaveHouse$Part" (11 : Nat) "StaveHouse$Part" "events" "[LStaveHouse$Event;") ∈ wAll := wA_4 (j := 130) rfl rfl
theorem k_2_38 : (Jvm.Cond.fieldLink "StaveHouse$Event" (22 : Nat) "StaveHouse$Event" "marks" "I") ∈ wAll := wA_2 (j := 38) rfl rfl
theorem k_2_21 : (Jvm.Cond.fieldLink "StaveHouse$Part" (84 : Nat) "StaveHouse$Event" "place" "J") ∈ wAll := wA_2 (j := 21) rfl rfl
theorem k_2_24 : (Jvm.Cond.fieldLink "StaveHouse$Part" (87 : Nat) "StaveHouse$Event" "length" "J") ∈ wAll := wA_2 (j := 24) rfl rfl
theorem k_2_34 : (Jvm.Cond.fieldLink "StaveHouse$Part" (90 : Nat) "StaveHouse$Event" "bracket" "I") ∈ wAll := wA_2 (j := 34) rfl rfl
theorem k_5_36 : (Jvm.Cond.constantLong "StaveHouse$Part" (93 : Nat) (6350400 : Int64)) ∈ wAll := wA_5 (j := 36) rfl rfl
theorem k_5_15 : (Jvm.Cond.methodLink "StaveHouse$Part" (45 : Nat) ({ cls := "StaveHouse$Event", name := "has", desc := "(I)Z" } : Jvm.MethodName)) ∈ wAll := wA_5 (j := 15) rfl rfl
theorem k_5_16 : (Jvm.Cond.instanceMethod ({ cls := "StaveHouse$Event", name := "has", desc := "(I)Z" } : Jvm.MethodName)) ∈ wAll := wA_5 (j := 16) rfl rfl
theorem k_5_17 : (Jvm.Cond.selects "StaveHouse$Event" ({ cls := "StaveHouse$Event", name := "has", desc := "(I)Z" } : Jvm.MethodName) ({ cls := "StaveHouse$Event", name := "has", desc := "(I)Z" } : Jvm.MethodName)) ∈ wAll := wA_5 (j := 17) rfl rfl
theorem k_1_8 : (Jvm.Cond.initialized "StaveHouse$Event") ∈ wAll := wA_1 (j := 8) rfl rfl
theorem k_5_18 : (Jvm.Cond.code ({ cls := "StaveHouse$Event", name := "has", desc := "(I)Z" } : Jvm.MethodName) prog_3_method_3_code (2 : Nat) (Option.some Jvm.ClassFile.FieldType.boolean)) ∈ wAll := wA_5 (j := 18) rfl rfl
theorem k_4_151 : (Jvm.Cond.fieldLink "StaveHouse$Part" (81 : Nat) "StaveHouse$Part" "tooManyNotes" "Z") ∈ wAll := wA_4 (j := 151) rfl rfl
theorem k_5_70 : (Jvm.Cond.fieldLink "StaveHouse" (355 : Nat) "StaveHouse" "POINT_QUARTERS" "[I") ∈ wAll := wA_5 (j := 70) rfl rfl
theorem k_4_142 : (Jvm.Cond.fieldLink "StaveHouse$Part" (19 : Nat) "StaveHouse$Part" "notes" "[[I") ∈ wAll := wA_4 (j := 142) rfl rfl
theorem k_4_145 : (Jvm.Cond.fieldLink "StaveHouse$Part" (22 : Nat) "StaveHouse$Part" "notePlaces" "[J") ∈ wAll := wA_4 (j := 145) rfl rfl
theorem k_2_54 : (Jvm.Cond.fieldLink "StaveHouse$Part" (188 : Nat) "StaveHouse$Event" "count" "I") ∈ wAll := wA_2 (j := 54) rfl rfl
theorem k_5_119 : (Jvm.Cond.fieldLink "StaveHouse" (352 : Nat) "StaveHouse" "SHARP_RANKS" "[I") ∈ wAll := wA_5 (j := 119) rfl rfl
theorem k_4_70 : (Jvm.Cond.methodLink "StaveHouse" (349 : Nat) ({ cls := "java/lang/Math", name := "floorMod", desc := "(II)I" } : Jvm.MethodName)) ∈ wAll := wA_4 (j := 70) rfl rfl
theorem k_4_71 : (Jvm.Cond.static ({ cls := "java/lang/Math", name := "floorMod", desc := "(II)I" } : Jvm.MethodName)) ∈ wAll := wA_4 (j := 71) rfl rfl
theorem k_4_72 : (Jvm.Cond.code ({ cls := "java/lang/Math", name := "floorMod", desc := "(II)I" } : Jvm.MethodName) prog_20_method_50_code (3 : Nat) (Option.some Jvm.ClassFile.FieldType.int)) ∈ wAll := wA_4 (j := 72) rfl rfl
theorem k_2_60 : (Jvm.Cond.fieldLink "StaveHouse$Part" (99 : Nat) "StaveHouse$Event" "steps" "[I") ∈ wAll := wA_2 (j := 60) rfl rfl
theorem k_2_65 : (Jvm.Cond.fieldLink "StaveHouse$Part" (102 : Nat) "StaveHouse$Event" "alterations" "[I") ∈ wAll := wA_2 (j := 65) rfl rfl
theorem k_5_129 : (Jvm.Cond.methodLink "StaveHouse$Part" (105 : Nat) ({ cls := "StaveHouse$Event", name := "hasPitch", desc := "(II)Z" } : Jvm.MethodName)) ∈ wAll := wA_5 (j := 129) rfl rfl
theorem k_5_46 : (Jvm.Cond.instanceMethod ({ cls := "StaveHouse$Event", name := "hasPitch", desc := "(II)Z" } : Jvm.MethodName)) ∈ wAll := wA_5 (j := 46) rfl rfl
theorem k_5_47 : (Jvm.Cond.selects "StaveHouse$Event" ({ cls := "StaveHouse$Event", name := "hasPitch", desc := "(II)Z" } : Jvm.MethodName) ({ cls := "StaveHouse$Event", name := "hasPitch", desc := "(II)Z" } : Jvm.MethodName)) ∈ wAll := wA_5 (j := 47) rfl rfl
theorem k_5_48 : (Jvm.Cond.code ({ cls := "StaveHouse$Event", name := "hasPitch", desc := "(II)Z" } : Jvm.MethodName) prog_3_method_6_code (4 : Nat) (Option.some Jvm.ClassFile.FieldType.boolean)) ∈ wAll := wA_5 (j := 48) rfl rfl
theorem k_5_104 : (Jvm.Cond.methodLink "StaveHouse$Part" (191 : Nat) ({ cls := "StaveHouse$Part", name := "isRestNote", desc := "(I)Z" } : Jvm.MethodName)) ∈ wAll := wA_5 (j := 104) rfl rfl
theorem k_5_106 : (Jvm.Cond.instanceMethod ({ cls := "StaveHouse$Part", name := "isRestNote", desc := "(I)Z" } : Jvm.MethodName)) ∈ wAll := wA_5 (j := 106) rfl rfl
theorem ks_54 : (Jvm.Cond.selects "StaveHouse$Part" ({ cls := "StaveHouse$Part", name := "isRestNote", desc := "(I)Z" } : Jvm.MethodName) ({ cls := "StaveHouse$Part", name := "isRestNote", desc := "(I)Z" } : Jvm.MethodName)) ∈ wAll := wA_s (j := 54) rfl rfl
theorem k_1_18 : (Jvm.Cond.initialized "StaveHouse$Part") ∈ wAll := wA_1 (j := 18) rfl rfl
theorem k_5_107 : (Jvm.Cond.code ({ cls := "StaveHouse$Part", name := "isRestNote", desc := "(I)Z" } : Jvm.MethodName) prog_6_method_14_code (3 : Nat) (Option.some Jvm.ClassFile.FieldType.boolean)) ∈ wAll := wA_5 (j := 107) rfl rfl
theorem k_5_77 : (Jvm.Cond.methodLink "StaveHouse$Part" (181 : Nat) ({ cls := "java/lang/Math", name := "max", desc := "(II)I" } : Jvm.MethodName)) ∈ wAll := wA_5 (j := 77) rfl rfl
theorem k_5_138 : (Jvm.Cond.fieldLink "StaveHouse$Part" (206 : Nat) "StaveHouse$Part" "LOWEST_LINES" "[I") ∈ wAll := wA_5 (j := 138) rfl rfl
theorem k_4_121 : (Jvm.Cond.fieldLink "StaveHouse$Part" (209 : Nat) "StaveHouse$Part" "clef" "I") ∈ wAll := wA_4 (j := 121) rfl rfl
theorem k_5_92 : (Jvm.Cond.code ({ cls := "StaveHouse", name := "beatCount", desc := "(II)I" } : Jvm.MethodName) prog_1_method_39_code (2 : Nat) (Option.some Jvm.ClassFile.FieldType.int)) ∈ wAll := wA_5 (j := 92) rfl rfl
theorem k_1_1 : (Jvm.Cond.initialized "StaveHouse") ∈ wAll := wA_1 (j := 1) rfl rfl
theorem k_5_91 : (Jvm.Cond.static ({ cls := "StaveHouse", name := "beatCount", desc := "(II)I" } : Jvm.MethodName)) ∈ wAll := wA_5 (j := 91) rfl rfl
theorem k_5_153 : (Jvm.Cond.methodLink "StaveHouse$Part" (218 : Nat) ({ cls := "StaveHouse$Part", name := "isBeamed", desc := "(I)Z" } : Jvm.MethodName)) ∈ wAll := wA_5 (j := 153) rfl rfl
theorem k_5_155 : (Jvm.Cond.instanceMethod ({ cls := "StaveHouse$Part", name := "isBeamed", desc := "(I)Z" } : Jvm.MethodName)) ∈ wAll := wA_5 (j := 155) rfl rfl
theorem ks_62 : (Jvm.Cond.selects "StaveHouse$Part" ({ cls := "StaveHouse$Part", name := "isBeamed", desc := "(I)Z" } : Jvm.MethodName) ({ cls := "StaveHouse$Part", name := "isBeamed", desc := "(I)Z" } : Jvm.MethodName)) ∈ wAll := wA_s (j := 62) rfl rfl
theorem k_5_156 : (Jvm.Cond.code ({ cls := "StaveHouse$Part", name := "isBeamed", desc := "(I)Z" } : Jvm.MethodName) prog_6_method_22_code (2 : Nat) (Option.some Jvm.ClassFile.FieldType.boolean)) ∈ wAll := wA_5 (j := 156) rfl rfl
theorem k_5_140 : (Jvm.Cond.methodLink "StaveHouse$Part" (215 : Nat) ({ cls := "StaveHouse$Part", name := "leastHeight", desc := "(I)I" } : Jvm.MethodName)) ∈ wAll := wA_5 (j := 140) rfl rfl
theorem k_5_142 : (Jvm.Cond.instanceMethod ({ cls := "StaveHouse$Part", name := "leastHeight", desc := "(I)I" } : Jvm.MethodName)) ∈ wAll := wA_5 (j := 142) rfl rfl
theorem ks_60 : (Jvm.Cond.selects "StaveHouse$Part" ({ cls := "StaveHouse$Part", name := "leastHeight", desc := "(I)I" } : Jvm.MethodName) ({ cls := "StaveHouse$Part", name := "leastHeight", desc := "(I)I" } : Jvm.MethodName)) ∈ wAll := wA_s (j := 60) rfl rfl
theorem k_5_143 : (Jvm.Cond.code ({ cls := "StaveHouse$Part", name := "leastHeight", desc := "(I)I" } : Jvm.MethodName) prog_6_method_19_code (2 : Nat) (Option.some Jvm.ClassFile.FieldType.int)) ∈ wAll := wA_5 (j := 143) rfl rfl
theorem k_5_134 : (Jvm.Cond.methodLink "StaveHouse$Part" (212 : Nat) ({ cls := "StaveHouse$Part", name := "greatestHeight", desc := "(I)I" } : Jvm.MethodName)) ∈ wAll := wA_5 (j := 134) rfl rfl
theorem k_5_136 : (Jvm.Cond.instanceMethod ({ cls := "StaveHouse$Part", name := "greatestHeight", desc := "(I)I" } : Jvm.MethodName)) ∈ wAll := wA_5 (j := 136) rfl rfl
theorem ks_59 : (Jvm.Cond.selects "StaveHouse$Part" ({ cls := "StaveHouse$Part", name := "greatestHeight", desc := "(I)I" } : Jvm.MethodName) ({ cls := "StaveHouse$Part", name := "greatestHeight", desc := "(I)I" } : Jvm.MethodName)) ∈ wAll := wA_s (j := 59) rfl rfl
theorem k_5_137 : (Jvm.Cond.code ({ cls := "StaveHouse$Part", name := "greatestHeight", desc := "(I)I" } : Jvm.MethodName) prog_6_method_20_code (3 : Nat) (Option.some Jvm.ClassFile.FieldType.int)) ∈ wAll := wA_5 (j := 137) rfl rfl
theorem k_2_69 : (Jvm.Cond.lays "StaveHouse$Event" "StaveHouse$Event" "place" "J") ∈ wAll := wA_2 (j := 69) rfl rfl
theorem k_2_71 : (Jvm.Cond.lays "StaveHouse$Event" "StaveHouse$Event" "length" "J") ∈ wAll := wA_2 (j := 71) rfl rfl
theorem k_2_73 : (Jvm.Cond.lays "StaveHouse$Event" "StaveHouse$Event" "value" "I") ∈ wAll := wA_2 (j := 73) rfl rfl
theorem k_2_75 : (Jvm.Cond.lays "StaveHouse$Event" "StaveHouse$Event" "tupletFirst" "I") ∈ wAll := wA_2 (j := 75) rfl rfl
theorem k_2_77 : (Jvm.Cond.lays "StaveHouse$Event" "StaveHouse$Event" "tupletSecond" "I") ∈ wAll := wA_2 (j := 77) rfl rfl
theorem k_2_79 : (Jvm.Cond.lays "StaveHouse$Event" "StaveHouse$Event" "bracket" "I") ∈ wAll := wA_2 (j := 79) rfl rfl
theorem k_2_81 : (Jvm.Cond.lays "StaveHouse$Event" "StaveHouse$Event" "bracketPlace" "I") ∈ wAll := wA_2 (j := 81) rfl rfl
theorem k_2_83 : (Jvm.Cond.lays "StaveHouse$Event" "StaveHouse$Event" "marks" "I") ∈ wAll := wA_2 (j := 83) rfl rfl
theorem k_2_85 : (Jvm.Cond.lays "StaveHouse$Event" "StaveHouse$Event" "loud" "I") ∈ wAll := wA_2 (j := 85) rfl rfl
theorem k_2_87 : (Jvm.Cond.lays "StaveHouse$Event" "StaveHouse$Event" "token" "I") ∈ wAll := wA_2 (j := 87) rfl rfl
theorem k_2_89 : (Jvm.Cond.lays "StaveHouse$Event" "StaveHouse$Event" "count" "I") ∈ wAll := wA_2 (j := 89) rfl rfl
theorem k_2_91 : (Jvm.Cond.lays "StaveHouse$Event" "StaveHouse$Event" "slurred" "Z") ∈ wAll := wA_2 (j := 91) rfl rfl
theorem k_2_93 : (Jvm.Cond.laysFinal "StaveHouse$Event" "StaveHouse$Event" "steps" "[I") ∈ wAll := wA_2 (j := 93) rfl rfl
theorem k_2_95 : (Jvm.Cond.laysFinal "StaveHouse$Event" "StaveHouse$Event" "alterations" "[I") ∈ wAll := wA_2 (j := 95) rfl rfl
theorem k_4_153 : (Jvm.Cond.lays "StaveHouse$Part" "StaveHouse$Part" "word" "J") ∈ wAll := wA_4 (j := 153) rfl rfl
theorem k_4_155 : (Jvm.Cond.lays "StaveHouse$Part" "StaveHouse$Part" "clef" "I") ∈ wAll := wA_4 (j := 155) rfl rfl
theorem k_4_157 : (Jvm.Cond.lays "StaveHouse$Part" "StaveHouse$Part" "number" "I") ∈ wAll := wA_4 (j := 157) rfl rfl
theorem k_4_159 : (Jvm.Cond.lays "StaveHouse$Part" "StaveHouse$Part" "token" "I") ∈ wAll := wA_4 (j := 159) rfl rfl
theorem k_4_161 : (Jvm.Cond.lays "StaveHouse$Part" "StaveHouse$Part" "root" "I") ∈ wAll := wA_4 (j := 161) rfl rfl
theorem k_4_163 : (Jvm.Cond.laysFinal "StaveHouse$Part" "StaveHouse$Part" "events" "[LStaveHouse$Event;") ∈ wAll := wA_4 (j := 163) rfl rfl
theorem k_4_165 : (Jvm.Cond.lays "StaveHouse$Part" "StaveHouse$Part" "eventCount" "I") ∈ wAll := wA_4 (j := 165) rfl rfl
theorem k_4_167 : (Jvm.Cond.lays "StaveHouse$Part" "StaveHouse$Part" "endPlace" "J") ∈ wAll := wA_4 (j := 167) rfl rfl
theorem k_4_169 : (Jvm.Cond.laysFinal "StaveHouse$Part" "StaveHouse$Part" "notes" "[[I") ∈ wAll := wA_4 (j := 169) rfl rfl
theorem k_4_171 : (Jvm.Cond.laysFinal "StaveHouse$Part" "StaveHouse$Part" "notePlaces" "[J") ∈ wAll := wA_4 (j := 171) rfl rfl
theorem k_4_173 : (Jvm.Cond.lays "StaveHouse$Part" "StaveHouse$Part" "noteCount" "I") ∈ wAll := wA_4 (j := 173) rfl rfl
theorem k_4_175 : (Jvm.Cond.lays "StaveHouse$Part" "StaveHouse$Part" "tooManyNotes" "Z") ∈ wAll := wA_4 (j := 175) rfl rfl
theorem k_4_177 : (Jvm.Cond.laysFinal "StaveHouse$Part" "StaveHouse$Part" "known" "[I") ∈ wAll := wA_4 (j := 177) rfl rfl
theorem k_1_209 : (Jvm.Cond.lays "StaveHouse$Walker" "StaveHouse$Walker" "tree" "LStaveHouse$Parser;") ∈ wAll := wA_1 (j := 209) rfl rfl
theorem k_1_211 : (Jvm.Cond.lays "StaveHouse$Walker" "StaveHouse$Walker" "part" "LStaveHouse$Part;") ∈ wAll := wA_1 (j := 211) rfl rfl
theorem k_1_213 : (Jvm.Cond.lays "StaveHouse$Walker" "StaveHouse$Walker" "wrong" "I") ∈ wAll := wA_1 (j := 213) rfl rfl
theorem k_1_215 : (Jvm.Cond.lays "StaveHouse$Walker" "StaveHouse$Walker" "gone" "I") ∈ wAll := wA_1 (j := 215) rfl rfl
theorem k_1_217 : (Jvm.Cond.lays "StaveHouse$Walker" "StaveHouse$Walker" "loud" "I") ∈ wAll := wA_1 (j := 217) rfl rfl
theorem k_1_219 : (Jvm.Cond.lays "StaveHouse$Walker" "StaveHouse$Walker" "backs" "I") ∈ wAll := wA_1 (j := 219) rfl rfl
theorem k_1_221 : (Jvm.Cond.lays "StaveHouse$Walker" "StaveHouse$Walker" "brackets" "I") ∈ wAll := wA_1 (j := 221) rfl rfl
theorem k_1_223 : (Jvm.Cond.lays "StaveHouse$Walker" "StaveHouse$Walker" "bracket" "I") ∈ wAll := wA_1 (j := 223) rfl rfl
theorem k_1_225 : (Jvm.Cond.lays "StaveHouse$Walker" "StaveHouse$Walker" "bracketPlace" "I") ∈ wAll := wA_1 (j := 225) rfl rfl
theorem k_1_227 : (Jvm.Cond.lays "StaveHouse$Walker" "StaveHouse$Walker" "tupletFirst" "I") ∈ wAll := wA_1 (j := 227) rfl rfl
theorem k_1_229 : (Jvm.Cond.lays "StaveHouse$Walker" "StaveHouse$Walker" "tupletSecond" "I") ∈ wAll := wA_1 (j := 229) rfl rfl
theorem k_1_231 : (Jvm.Cond.lays "StaveHouse$Walker" "StaveHouse$Walker" "come" "J") ∈ wAll := wA_1 (j := 231) rfl rfl
theorem k_1_233 : (Jvm.Cond.lays "StaveHouse$Walker" "StaveHouse$Walker" "farthest" "J") ∈ wAll := wA_1 (j := 233) rfl rfl
theorem k_1_235 : (Jvm.Cond.lays "StaveHouse$Walker" "StaveHouse$Walker" "bar" "J") ∈ wAll := wA_1 (j := 235) rfl rfl
theorem k_1_237 : (Jvm.Cond.laysFinal "StaveHouse$Walker" "StaveHouse$Walker" "powers" "[I") ∈ wAll := wA_1 (j := 237) rfl rfl
theorem k_1_239 : (Jvm.Cond.laysFinal "StaveHouse$Walker" "StaveHouse$Walker" "carrySigns" "[I") ∈ wAll := wA_1 (j := 239) rfl rfl
theorem k_2_1 : (Jvm.Cond.laysFinal "StaveHouse$Walker" "StaveHouse$Walker" "carrySteps" "[I") ∈ wAll := wA_2 (j := 1) rfl rfl
theorem k_2_3 : (Jvm.Cond.laysFinal "StaveHouse$Walker" "StaveHouse$Walker" "carryTones" "[I") ∈ wAll := wA_2 (j := 3) rfl rfl
theorem k_2_5 : (Jvm.Cond.lays "StaveHouse$Walker" "StaveHouse$Walker" "carries" "I") ∈ wAll := wA_2 (j := 5) rfl rfl
theorem W_prog_8_method_4_code_0 : chW prog_8_method_4_code 0 [3, 62, 29, 42, 180, 0, 17, 162, 0, 25, 42, 180, 0, 11, 29, 50, 180, 0, 68, 31, 148, 154, 0, 5, 4, 172, 132, 3, 1, 167, 255, 229, 3, 172] := chW_of (by decide +kernel)
theorem d_8_4_0 : decode prog_8_method_4_code 0 = .ok (.iconst 0, 1) := D_3 W_prog_8_method_4_code_0 0 rfl rfl
theorem d_8_4_1 : decode prog_8_method_4_code 1 = .ok (.istore_n 3, 1) := D_62 W_prog_8_method_4_code_0 1 rfl rfl
theorem d_8_4_2 : decode prog_8_method_4_code 2 = .ok (.iload_n 3, 1) := D_29 W_prog_8_method_4_code_0 2 rfl rfl
theorem d_8_4_3 : decode prog_8_method_4_code 3 = .ok (.aload_n 0, 1) := D_42 W_prog_8_method_4_code_0 3 rfl rfl
theorem d_8_4_4 : decode prog_8_method_4_code 4 = .ok (.getfield 17, 3) := D_180 W_prog_8_method_4_code_0 4 rfl rfl rfl
theorem d_8_4_7 : decode prog_8_method_4_code 7 = .ok (.if_icmp .ge 25, 3) := D_162 W_prog_8_method_4_code_0 7 rfl rfl rfl
theorem W_prog_8_method_4_code_32 : chW prog_8_method_4_code 32 [3, 172] := chW_of (by decide +kernel)
theorem d_8_4_32 : decode prog_8_method_4_code 32 = .ok (.iconst 0, 1) := D_3 W_prog_8_method_4_code_32 0 rfl rfl
theorem d_8_4_33 : decode prog_8_method_4_code 33 = .ok (.ireturn, 1) := D_172 W_prog_8_method_4_code_32 1 rfl rfl
theorem d_8_4_10 : decode prog_8_method_4_code 10 = .ok (.aload_n 0, 1) := D_42 W_prog_8_method_4_code_0 10 rfl rfl
theorem d_8_4_11 : decode prog_8_method_4_code 11 = .ok (.getfield 11, 3) := D_180 W_prog_8_method_4_code_0 11 rfl rfl rfl
theorem d_8_4_14 : decode prog_8_method_4_code 14 = .ok (.iload_n 3, 1) := D_29 W_prog_8_method_4_code_0 14 rfl rfl
theorem d_8_4_15 : decode prog_8_method_4_code 15 = .ok (.aaload, 1) := D_50 W_prog_8_method_4_code_0 15 rfl rfl
theorem d_8_4_16 : decode prog_8_method_4_code 16 = .ok (.getfield 68, 3) := D_180 W_prog_8_method_4_code_0 16 rfl rfl rfl
theorem d_8_4_19 : decode prog_8_method_4_code 19 = .ok (.lload_n 1, 1) := D_31 W_prog_8_method_4_code_0 19 rfl rfl
theorem d_8_4_20 : decode prog_8_method_4_code 20 = .ok (.lcmp, 1) := D_148 W_prog_8_method_4_code_0 20 rfl rfl
theorem d_8_4_21 : decode prog_8_method_4_code 21 = .ok (.ifCond .ne 5, 3) := D_154 W_prog_8_method_4_code_0 21 rfl rfl rfl
theorem d_8_4_26 : decode prog_8_method_4_code 26 = .ok (.iinc 3 1, 3) := D_132 W_prog_8_method_4_code_0 26 rfl rfl rfl
theorem d_8_4_29 : decode prog_8_method_4_code 29 = .ok (.goto (-27), 3) := D_167 W_prog_8_method_4_code_0 29 rfl rfl rfl
theorem d_8_4_24 : decode prog_8_method_4_code 24 = .ok (.iconst 1, 1) := D_4 W_prog_8_method_4_code_0 24 rfl rfl
theorem d_8_4_25 : decode prog_8_method_4_code 25 = .ok (.ireturn, 1) := D_172 W_prog_8_method_4_code_0 25 rfl rfl
theorem W_prog_6_method_2_code_0 : chW prog_6_method_2_code 0 [42, 3, 181, 0, 31, 42, 3, 181, 0, 35, 42, 9, 181, 0, 38, 177] := chW_of (by decide +kernel)
theorem d_6_2_0 : decode prog_6_method_2_code 0 = .ok (.aload_n 0, 1) := D_42 W_prog_6_method_2_code_0 0 rfl rfl
theorem d_6_2_1 : decode prog_6_method_2_code 1 = .ok (.iconst 0, 1) := D_3 W_prog_6_method_2_code_0 1 rfl rfl
theorem d_6_2_2 : decode prog_6_method_2_code 2 = .ok (.putfield 31, 3) := D_181 W_prog_6_method_2_code_0 2 rfl rfl rfl
theorem d_6_2_5 : decode prog_6_method_2_code 5 = .ok (.aload_n 0, 1) := D_42 W_prog_6_method_2_code_0 5 rfl rfl
theorem d_6_2_6 : decode prog_6_method_2_code 6 = .ok (.iconst 0, 1) := D_3 W_prog_6_method_2_code_0 6 rfl rfl
theorem d_6_2_7 : decode prog_6_method_2_code 7 = .ok (.putfield 35, 3) := D_181 W_prog_6_method_2_code_0 7 rfl rfl rfl
theorem d_6_2_10 : decode prog_6_method_2_code 10 = .ok (.aload_n 0, 1) := D_42 W_prog_6_method_2_code_0 10 rfl rfl
theorem d_6_2_11 : decode prog_6_method_2_code 11 = .ok (.lconst 0, 1) := D_9 W_prog_6_method_2_code_0 11 rfl rfl
theorem d_6_2_12 : decode prog_6_method_2_code 12 = .ok (.putfield 38, 3) := D_181 W_prog_6_method_2_code_0 12 rfl rfl rfl
theorem d_6_2_15 : decode prog_6_method_2_code 15 = .ok (.return_, 1) := D_177 W_prog_6_method_2_code_0 15 rfl rfl
theorem W_prog_8_method_5_code_0 : chW prog_8_method_5_code 0 [20, 0, 72, 42, 180, 0, 30, 4, 184, 0, 74, 133, 109, 42, 180, 0, 27, 133, 105, 173] := chW_of (by decide +kernel)
theorem d_8_5_0 : decode prog_8_method_5_code 0 = .ok (.ldc2_w 72, 3) := D_20 W_prog_8_method_5_code_0 0 rfl rfl rfl
theorem d_8_5_3 : decode prog_8_method_5_code 3 = .ok (.aload_n 0, 1) := D_42 W_prog_8_method_5_code_0 3 rfl rfl
theorem d_8_5_4 : decode prog_8_method_5_code 4 = .ok (.getfield 30, 3) := D_180 W_prog_8_method_5_code_0 4 rfl rfl rfl
theorem d_8_5_7 : decode prog_8_method_5_code 7 = .ok (.iconst 1, 1) := D_4 W_prog_8_method_5_code_0 7 rfl rfl
theorem d_8_5_8 : decode prog_8_method_5_code 8 = .ok (.invokestatic 74, 3) := D_184 W_prog_8_method_5_code_0 8 rfl rfl rfl
theorem d_8_5_11 : decode prog_8_method_5_code 11 = .ok (.i2l, 1) := D_133 W_prog_8_method_5_code_0 11 rfl rfl
theorem d_8_5_12 : decode prog_8_method_5_code 12 = .ok (.ldiv, 1) := D_109 W_prog_8_method_5_code_0 12 rfl rfl
theorem d_8_5_13 : decode prog_8_method_5_code 13 = .ok (.aload_n 0, 1) := D_42 W_prog_8_method_5_code_0 13 rfl rfl
theorem d_8_5_14 : decode prog_8_method_5_code 14 = .ok (.getfield 27, 3) := D_180 W_prog_8_method_5_code_0 14 rfl rfl rfl
theorem d_8_5_17 : decode prog_8_method_5_code 17 = .ok (.i2l, 1) := D_133 W_prog_8_method_5_code_0 17 rfl rfl
theorem d_8_5_18 : decode prog_8_method_5_code 18 = .ok (.lmul, 1) := D_105 W_prog_8_method_5_code_0 18 rfl rfl
theorem d_8_5_19 : decode prog_8_method_5_code 19 = .ok (.lreturn, 1) := D_173 W_prog_8_method_5_code_0 19 rfl rfl
theorem W_prog_13_method_3_code_0 : chW prog_13_method_3_code 0 [42, 180, 0, 32, 154, 0, 13, 42, 27, 16, 16, 28, 104, 96, 181, 0, 32, 177] := chW_of (by decide +kernel)
theorem d_13_3_0 : decode prog_13_method_3_code 0 = .ok (.aload_n 0, 1) := D_42 W_prog_13_method_3_code_0 0 rfl rfl
theorem d_13_3_1 : decode prog_13_method_3_code 1 = .ok (.getfield 32, 3) := D_180 W_prog_13_method_3_code_0 1 rfl rfl rfl
theorem d_13_3_4 : decode prog_13_method_3_code 4 = .ok (.ifCond .ne 13, 3) := D_154 W_prog_13_method_3_code_0 4 rfl rfl rfl
theorem d_13_3_7 : decode prog_13_method_3_code 7 = .ok (.aload_n 0, 1) := D_42 W_prog_13_method_3_code_0 7 rfl rfl
theorem d_13_3_8 : decode prog_13_method_3_code 8 = .ok (.iload_n 1, 1) := D_27 W_prog_13_method_3_code_0 8 rfl rfl
theorem d_13_3_9 : decode prog_13_method_3_code 9 = .ok (.bipush 16, 2) := D_16 W_prog_13_method_3_code_0 9 rfl rfl rfl
theorem d_13_3_11 : decode prog_13_method_3_code 11 = .ok (.iload_n 2, 1) := D_28 W_prog_13_method_3_code_0 11 rfl rfl
theorem d_13_3_12 : decode prog_13_method_3_code 12 = .ok (.imul, 1) := D_104 W_prog_13_method_3_code_0 12 rfl rfl
theorem d_13_3_13 : decode prog_13_method_3_code 13 = .ok (.iadd, 1) := D_96 W_prog_13_method_3_code_0 13 rfl rfl
theorem d_13_3_14 : decode prog_13_method_3_code 14 = .ok (.putfield 32, 3) := D_181 W_prog_13_method_3_code_0 14 rfl rfl rfl
theorem d_13_3_17 : decode prog_13_method_3_code 17 = .ok (.return_, 1) := D_177 W_prog_13_method_3_code_0 17 rfl rfl
theorem W_prog_13_method_12_code_0 : chW prog_13_method_12_code 0 [27, 61, 3, 62, 29, 178, 0, 145, 190, 162, 0, 48, 42, 180, 0, 9, 29, 46, 54, 4, 21, 4, 156, 0, 29, 28, 178, 0, 145, 29, 46, 112, 153, 0, 5, 2] := chW_of (by decide +kernel)
theorem d_13_12_0 : decode prog_13_method_12_code 0 = .ok (.iload_n 1, 1) := D_27 W_prog_13_method_12_code_0 0 rfl rfl
theorem d_13_12_1 : decode prog_13_method_12_code 1 = .ok (.istore_n 2, 1) := D_61 W_prog_13_method_12_code_0 1 rfl rfl
theorem d_13_12_2 : decode prog_13_method_12_code 2 = .ok (.iconst 0, 1) := D_3 W_prog_13_method_12_code_0 2 rfl rfl
theorem d_13_12_3 : decode prog_13_method_12_code 3 = .ok (.istore_n 3, 1) := D_62 W_prog_13_method_12_code_0 3 rfl rfl
theorem d_13_12_4 : decode prog_13_method_12_code 4 = .ok (.iload_n 3, 1) := D_29 W_prog_13_method_12_code_0 4 rfl rfl
theorem d_13_12_5 : decode prog_13_method_12_code 5 = .ok (.getstatic 145, 3) := D_178 W_prog_13_method_12_code_0 5 rfl rfl rfl
theorem d_13_12_8 : decode prog_13_method_12_code 8 = .ok (.arraylength, 1) := D_190 W_prog_13_method_12_code_0 8 rfl rfl
theorem d_13_12_9 : decode prog_13_method_12_code 9 = .ok (.if_icmp .ge 48, 3) := D_162 W_prog_13_method_12_code_0 9 rfl rfl rfl
theorem W_prog_13_method_12_code_32 : chW prog_13_method_12_code 32 [153, 0, 5, 2, 172, 28, 178, 0, 145, 29, 46, 108, 61, 132, 4, 1, 167, 255, 228, 132, 3, 1, 167, 255, 206, 3, 62, 29, 178, 0, 145, 190, 162, 0, 46, 3] := chW_of (by decide +kernel)
theorem d_13_12_57 : decode prog_13_method_12_code 57 = .ok (.iconst 0, 1) := D_3 W_prog_13_method_12_code_32 25 rfl rfl
theorem d_13_12_58 : decode prog_13_method_12_code 58 = .ok (.istore_n 3, 1) := D_62 W_prog_13_method_12_code_32 26 rfl rfl
theorem d_13_12_12 : decode prog_13_method_12_code 12 = .ok (.aload_n 0, 1) := D_42 W_prog_13_method_12_code_0 12 rfl rfl
theorem d_13_12_13 : decode prog_13_method_12_code 13 = .ok (.getfield 9, 3) := D_180 W_prog_13_method_12_code_0 13 rfl rfl rfl
theorem d_13_12_16 : decode prog_13_method_12_code 16 = .ok (.iload_n 3, 1) := D_29 W_prog_13_method_12_code_0 16 rfl rfl
theorem d_13_12_17 : decode prog_13_method_12_code 17 = .ok (.iaload, 1) := D_46 W_prog_13_method_12_code_0 17 rfl rfl
theorem d_13_12_18 : decode prog_13_method_12_code 18 = .ok (.istore 4, 2) := D_54 W_prog_13_method_12_code_0 18 rfl rfl
theorem d_13_12_20 : decode prog_13_method_12_code 20 = .ok (.iload 4, 2) := D_21 W_prog_13_method_12_code_0 20 rfl rfl
theorem d_13_12_22 : decode prog_13_method_12_code 22 = .ok (.ifCond .ge 29, 3) := D_156 W_prog_13_method_12_code_0 22 rfl rfl rfl
theorem d_13_12_51 : decode prog_13_method_12_code 51 = .ok (.iinc 3 1, 3) := D_132 W_prog_13_method_12_code_32 19 rfl rfl rfl
theorem d_13_12_54 : decode prog_13_method_12_code 54 = .ok (.goto (-50), 3) := D_167 W_prog_13_method_12_code_32 22 rfl rfl rfl
theorem d_13_12_25 : decode prog_13_method_12_code 25 = .ok (.iload_n 2, 1) := D_28 W_prog_13_method_12_code_0 25 rfl rfl
theorem d_13_12_26 : decode prog_13_method_12_code 26 = .ok (.getstatic 145, 3) := D_178 W_prog_13_method_12_code_0 26 rfl rfl rfl
theorem d_13_12_29 : decode prog_13_method_12_code 29 = .ok (.iload_n 3, 1) := D_29 W_prog_13_method_12_code_0 29 rfl rfl
theorem d_13_12_30 : decode prog_13_method_12_code 30 = .ok (.iaload, 1) := D_46 W_prog_13_method_12_code_0 30 rfl rfl
theorem d_13_12_31 : decode prog_13_method_12_code 31 = .ok (.irem, 1) := D_112 W_prog_13_method_12_code_0 31 rfl rfl
theorem d_13_12_32 : decode prog_13_method_12_code 32 = .ok (.ifCond .eq 5, 3) := D_153 W_prog_13_method_12_code_32 0 rfl rfl rfl
theorem d_13_12_37 : decode prog_13_method_12_code 37 = .ok (.iload_n 2, 1) := D_28 W_prog_13_method_12_code_32 5 rfl rfl
theorem d_13_12_38 : decode prog_13_method_12_code 38 = .ok (.getstatic 145, 3) := D_178 W_prog_13_method_12_code_32 6 rfl rfl rfl
theorem d_13_12_41 : decode prog_13_method_12_code 41 = .ok (.iload_n 3, 1) := D_29 W_prog_13_method_12_code_32 9 rfl rfl
theorem d_13_12_42 : decode prog_13_method_12_code 42 = .ok (.iaload, 1) := D_46 W_prog_13_method_12_code_32 10 rfl rfl
theorem d_13_12_43 : decode prog_13_method_12_code 43 = .ok (.idiv, 1) := D_108 W_prog_13_method_12_code_32 11 rfl rfl
theorem d_13_12_44 : decode prog_13_method_12_code 44 = .ok (.istore_n 2, 1) := D_61 W_prog_13_method_12_code_32 12 rfl rfl
theorem d_13_12_45 : decode prog_13_method_12_code 45 = .ok (.iinc 4 1, 3) := D_132 W_prog_13_method_12_code_32 13 rfl rfl rfl
theorem d_13_12_48 : decode prog_13_method_12_code 48 = .ok (.goto (-28), 3) := D_167 W_prog_13_method_12_code_32 16 rfl rfl rfl
theorem d_13_12_35 : decode prog_13_method_12_code 35 = .ok (.iconst (-1), 1) := D_2 W_prog_13_method_12_code_32 3 rfl rfl
theorem d_13_12_36 : decode prog_13_method_12_code 36 = .ok (.ireturn, 1) := D_172 W_prog_13_method_12_code_32 4 rfl rfl
theorem d_13_12_59 : decode prog_13_method_12_code 59 = .ok (.iload_n 3, 1) := D_29 W_prog_13_method_12_code_32 27 rfl rfl
theorem d_13_12_60 : decode prog_13_method_12_code 60 = .ok (.getstatic 145, 3) := D_178 W_prog_13_method_12_code_32 28 rfl rfl rfl
theorem d_13_12_63 : decode prog_13_method_12_code 63 = .ok (.arraylength, 1) := D_190 W_prog_13_method_12_code_32 31 rfl rfl
theorem W_prog_13_method_12_code_64 : chW prog_13_method_12_code 64 [162, 0, 46, 3, 54, 4, 21, 4, 42, 180, 0, 9, 29, 46, 162, 0, 26, 28, 178, 0, 145, 29, 46, 104, 61, 28, 17, 4, 0, 164, 0, 5, 2, 172, 132, 4] := chW_of (by decide +kernel)
theorem d_13_12_64 : decode prog_13_method_12_code 64 = .ok (.if_icmp .ge 46, 3) := D_162 W_prog_13_method_12_code_64 0 rfl rfl rfl
theorem W_prog_13_method_12_code_96 : chW prog_13_method_12_code 96 [2, 172, 132, 4, 1, 167, 255, 225, 132, 3, 1, 167, 255, 208, 28, 17, 4, 0, 164, 0, 7, 2, 167, 0, 4, 28, 172] := chW_of (by decide +kernel)
theorem d_13_12_110 : decode prog_13_method_12_code 110 = .ok (.iload_n 2, 1) := D_28 W_prog_13_method_12_code_96 14 rfl rfl
theorem d_13_12_111 : decode prog_13_method_12_code 111 = .ok (.sipush 1024, 3) := D_17 W_prog_13_method_12_code_96 15 rfl rfl rfl
theorem d_13_12_114 : decode prog_13_method_12_code 114 = .ok (.if_icmp .le 7, 3) := D_164 W_prog_13_method_12_code_96 18 rfl rfl rfl
theorem d_13_12_121 : decode prog_13_method_12_code 121 = .ok (.iload_n 2, 1) := D_28 W_prog_13_method_12_code_96 25 rfl rfl
theorem d_13_12_117 : decode prog_13_method_12_code 117 = .ok (.iconst (-1), 1) := D_2 W_prog_13_method_12_code_96 21 rfl rfl
theorem d_13_12_118 : decode prog_13_method_12_code 118 = .ok (.goto 4, 3) := D_167 W_prog_13_method_12_code_96 22 rfl rfl rfl
theorem d_13_12_67 : decode prog_13_method_12_code 67 = .ok (.iconst 0, 1) := D_3 W_prog_13_method_12_code_64 3 rfl rfl
theorem d_13_12_68 : decode prog_13_method_12_code 68 = .ok (.istore 4, 2) := D_54 W_prog_13_method_12_code_64 4 rfl rfl
theorem d_13_12_70 : decode prog_13_method_12_code 70 = .ok (.iload 4, 2) := D_21 W_prog_13_method_12_code_64 6 rfl rfl
theorem d_13_12_72 : decode prog_13_method_12_code 72 = .ok (.aload_n 0, 1) := D_42 W_prog_13_method_12_code_64 8 rfl rfl
theorem d_13_12_73 : decode prog_13_method_12_code 73 = .ok (.getfield 9, 3) := D_180 W_prog_13_method_12_code_64 9 rfl rfl rfl
theorem d_13_12_76 : decode prog_13_method_12_code 76 = .ok (.iload_n 3, 1) := D_29 W_prog_13_method_12_code_64 12 rfl rfl
theorem d_13_12_77 : decode prog_13_method_12_code 77 = .ok (.iaload, 1) := D_46 W_prog_13_method_12_code_64 13 rfl rfl
theorem d_13_12_78 : decode prog_13_method_12_code 78 = .ok (.if_icmp .ge 26, 3) := D_162 W_prog_13_method_12_code_64 14 rfl rfl rfl
theorem d_13_12_104 : decode prog_13_method_12_code 104 = .ok (.iinc 3 1, 3) := D_132 W_prog_13_method_12_code_96 8 rfl rfl rfl
theorem d_13_12_107 : decode prog_13_method_12_code 107 = .ok (.goto (-48), 3) := D_167 W_prog_13_method_12_code_96 11 rfl rfl rfl
theorem d_13_12_81 : decode prog_13_method_12_code 81 = .ok (.iload_n 2, 1) := D_28 W_prog_13_method_12_code_64 17 rfl rfl
theorem d_13_12_82 : decode prog_13_method_12_code 82 = .ok (.getstatic 145, 3) := D_178 W_prog_13_method_12_code_64 18 rfl rfl rfl
theorem d_13_12_85 : decode prog_13_method_12_code 85 = .ok (.iload_n 3, 1) := D_29 W_prog_13_method_12_code_64 21 rfl rfl
theorem d_13_12_86 : decode prog_13_method_12_code 86 = .ok (.iaload, 1) := D_46 W_prog_13_method_12_code_64 22 rfl rfl
theorem d_13_12_87 : decode prog_13_method_12_code 87 = .ok (.imul, 1) := D_104 W_prog_13_method_12_code_64 23 rfl rfl
theorem d_13_12_88 : decode prog_13_method_12_code 88 = .ok (.istore_n 2, 1) := D_61 W_prog_13_method_12_code_64 24 rfl rfl
theorem d_13_12_89 : decode prog_13_method_12_code 89 = .ok (.iload_n 2, 1) := D_28 W_prog_13_method_12_code_64 25 rfl rfl
theorem d_13_12_90 : decode prog_13_method_12_code 90 = .ok (.sipush 1024, 3) := D_17 W_prog_13_method_12_code_64 26 rfl rfl rfl
theorem d_13_12_93 : decode prog_13_method_12_code 93 = .ok (.if_icmp .le 5, 3) := D_164 W_prog_13_method_12_code_64 29 rfl rfl rfl
theorem d_13_12_98 : decode prog_13_method_12_code 98 = .ok (.iinc 4 1, 3) := D_132 W_prog_13_method_12_code_96 2 rfl rfl rfl
theorem d_13_12_101 : decode prog_13_method_12_code 101 = .ok (.goto (-31), 3) := D_167 W_prog_13_method_12_code_96 5 rfl rfl rfl
theorem d_13_12_96 : decode prog_13_method_12_code 96 = .ok (.iconst (-1), 1) := D_2 W_prog_13_method_12_code_96 0 rfl rfl
theorem d_13_12_97 : decode prog_13_method_12_code 97 = .ok (.ireturn, 1) := D_172 W_prog_13_method_12_code_96 1 rfl rfl
theorem d_13_12_122 : decode prog_13_method_12_code 122 = .ok (.ireturn, 1) := D_172 W_prog_13_method_12_code_96 26 rfl rfl
theorem W_prog_3_method_5_code_0 : chW prog_3_method_5_code 0 [42, 180, 0, 18, 16, 6, 161, 0, 5, 3, 172, 42, 180, 0, 18, 62, 42, 180, 0, 18, 4, 100, 54, 4, 21, 4, 155, 0, 23, 42, 180, 0, 9, 21, 4, 46] := chW_of (by decide +kernel)
theorem d_3_5_0 : decode prog_3_method_5_code 0 = .ok (.aload_n 0, 1) := D_42 W_prog_3_method_5_code_0 0 rfl rfl
theorem d_3_5_1 : decode prog_3_method_5_code 1 = .ok (.getfield 18, 3) := D_180 W_prog_3_method_5_code_0 1 rfl rfl rfl
theorem d_3_5_4 : decode prog_3_method_5_code 4 = .ok (.bipush 6, 2) := D_16 W_prog_3_method_5_code_0 4 rfl rfl rfl
theorem d_3_5_6 : decode prog_3_method_5_code 6 = .ok (.if_icmp .lt 5, 3) := D_161 W_prog_3_method_5_code_0 6 rfl rfl rfl
theorem d_3_5_11 : decode prog_3_method_5_code 11 = .ok (.aload_n 0, 1) := D_42 W_prog_3_method_5_code_0 11 rfl rfl
theorem d_3_5_12 : decode prog_3_method_5_code 12 = .ok (.getfield 18, 3) := D_180 W_prog_3_method_5_code_0 12 rfl rfl rfl
theorem d_3_5_15 : decode prog_3_method_5_code 15 = .ok (.istore_n 3, 1) := D_62 W_prog_3_method_5_code_0 15 rfl rfl
theorem d_3_5_16 : decode prog_3_method_5_code 16 = .ok (.aload_n 0, 1) := D_42 W_prog_3_method_5_code_0 16 rfl rfl
theorem d_3_5_17 : decode prog_3_method_5_code 17 = .ok (.getfield 18, 3) := D_180 W_prog_3_method_5_code_0 17 rfl rfl rfl
theorem d_3_5_20 : decode prog_3_method_5_code 20 = .ok (.iconst 1, 1) := D_4 W_prog_3_method_5_code_0 20 rfl rfl
theorem d_3_5_21 : decode prog_3_method_5_code 21 = .ok (.isub, 1) := D_100 W_prog_3_method_5_code_0 21 rfl rfl
theorem d_3_5_22 : decode prog_3_method_5_code 22 = .ok (.istore 4, 2) := D_54 W_prog_3_method_5_code_0 22 rfl rfl
theorem d_3_5_9 : decode prog_3_method_5_code 9 = .ok (.iconst 0, 1) := D_3 W_prog_3_method_5_code_0 9 rfl rfl
theorem d_3_5_10 : decode prog_3_method_5_code 10 = .ok (.ireturn, 1) := D_172 W_prog_3_method_5_code_0 10 rfl rfl
theorem d_3_5_24 : decode prog_3_method_5_code 24 = .ok (.iload 4, 2) := D_21 W_prog_3_method_5_code_0 24 rfl rfl
theorem d_3_5_26 : decode prog_3_method_5_code 26 = .ok (.ifCond .lt 23, 3) := D_155 W_prog_3_method_5_code_0 26 rfl rfl rfl
theorem d_3_5_29 : decode prog_3_method_5_code 29 = .ok (.aload_n 0, 1) := D_42 W_prog_3_method_5_code_0 29 rfl rfl
theorem d_3_5_30 : decode prog_3_method_5_code 30 = .ok (.getfield 9, 3) := D_180 W_prog_3_method_5_code_0 30 rfl rfl rfl
theorem W_prog_3_method_5_code_32 : chW prog_3_method_5_code 32 [9, 21, 4, 46, 27, 161, 0, 12, 21, 4, 62, 132, 4, 255, 167, 255, 234, 29, 42, 180, 0, 18, 162, 0, 15, 42, 180, 0, 9, 29, 46, 27, 160, 0, 5, 3] := chW_of (by decide +kernel)
theorem d_3_5_33 : decode prog_3_method_5_code 33 = .ok (.iload 4, 2) := D_21 W_prog_3_method_5_code_32 1 rfl rfl
theorem d_3_5_35 : decode prog_3_method_5_code 35 = .ok (.iaload, 1) := D_46 W_prog_3_method_5_code_32 3 rfl rfl
theorem d_3_5_36 : decode prog_3_method_5_code 36 = .ok (.iload_n 1, 1) := D_27 W_prog_3_method_5_code_32 4 rfl rfl
theorem d_3_5_37 : decode prog_3_method_5_code 37 = .ok (.if_icmp .lt 12, 3) := D_161 W_prog_3_method_5_code_32 5 rfl rfl rfl
theorem d_3_5_40 : decode prog_3_method_5_code 40 = .ok (.iload 4, 2) := D_21 W_prog_3_method_5_code_32 8 rfl rfl
theorem d_3_5_42 : decode prog_3_method_5_code 42 = .ok (.istore_n 3, 1) := D_62 W_prog_3_method_5_code_32 10 rfl rfl
theorem d_3_5_43 : decode prog_3_method_5_code 43 = .ok (.iinc 4 (-1), 3) := D_132 W_prog_3_method_5_code_32 11 rfl rfl rfl
theorem d_3_5_46 : decode prog_3_method_5_code 46 = .ok (.goto (-22), 3) := D_167 W_prog_3_method_5_code_32 14 rfl rfl rfl
theorem d_3_5_49 : decode prog_3_method_5_code 49 = .ok (.iload_n 3, 1) := D_29 W_prog_3_method_5_code_32 17 rfl rfl
theorem d_3_5_50 : decode prog_3_method_5_code 50 = .ok (.aload_n 0, 1) := D_42 W_prog_3_method_5_code_32 18 rfl rfl
theorem d_3_5_51 : decode prog_3_method_5_code 51 = .ok (.getfield 18, 3) := D_180 W_prog_3_method_5_code_32 19 rfl rfl rfl
theorem d_3_5_54 : decode prog_3_method_5_code 54 = .ok (.if_icmp .ge 15, 3) := D_162 W_prog_3_method_5_code_32 22 rfl rfl rfl
theorem d_3_5_57 : decode prog_3_method_5_code 57 = .ok (.aload_n 0, 1) := D_42 W_prog_3_method_5_code_32 25 rfl rfl
theorem d_3_5_58 : decode prog_3_method_5_code 58 = .ok (.getfield 9, 3) := D_180 W_prog_3_method_5_code_32 26 rfl rfl rfl
theorem d_3_5_61 : decode prog_3_method_5_code 61 = .ok (.iload_n 3, 1) := D_29 W_prog_3_method_5_code_32 29 rfl rfl
theorem d_3_5_62 : decode prog_3_method_5_code 62 = .ok (.iaload, 1) := D_46 W_prog_3_method_5_code_32 30 rfl rfl
theorem d_3_5_63 : decode prog_3_method_5_code 63 = .ok (.iload_n 1, 1) := D_27 W_prog_3_method_5_code_32 31 rfl rfl
theorem W_prog_3_method_5_code_64 : chW prog_3_method_5_code 64 [160, 0, 5, 3, 172, 42, 180, 0, 18, 54, 4, 21, 4, 29, 164, 0, 41, 42, 180, 0, 9, 21, 4, 42, 180, 0, 9, 21, 4, 4, 100, 46, 79, 42, 180, 0] := chW_of (by decide +kernel)
theorem d_3_5_64 : decode prog_3_method_5_code 64 = .ok (.if_icmp .ne 5, 3) := D_160 W_prog_3_method_5_code_64 0 rfl rfl rfl
theorem d_3_5_67 : decode prog_3_method_5_code 67 = .ok (.iconst 0, 1) := D_3 W_prog_3_method_5_code_64 3 rfl rfl
theorem d_3_5_68 : decode prog_3_method_5_code 68 = .ok (.ireturn, 1) := D_172 W_prog_3_method_5_code_64 4 rfl rfl
theorem d_3_5_69 : decode prog_3_method_5_code 69 = .ok (.aload_n 0, 1) := D_42 W_prog_3_method_5_code_64 5 rfl rfl
theorem d_3_5_70 : decode prog_3_method_5_code 70 = .ok (.getfield 18, 3) := D_180 W_prog_3_method_5_code_64 6 rfl rfl rfl
theorem d_3_5_73 : decode prog_3_method_5_code 73 = .ok (.istore 4, 2) := D_54 W_prog_3_method_5_code_64 9 rfl rfl
theorem d_3_5_75 : decode prog_3_method_5_code 75 = .ok (.iload 4, 2) := D_21 W_prog_3_method_5_code_64 11 rfl rfl
theorem d_3_5_77 : decode prog_3_method_5_code 77 = .ok (.iload_n 3, 1) := D_29 W_prog_3_method_5_code_64 13 rfl rfl
theorem d_3_5_78 : decode prog_3_method_5_code 78 = .ok (.if_icmp .le 41, 3) := D_164 W_prog_3_method_5_code_64 14 rfl rfl rfl
theorem W_prog_3_method_5_code_96 : chW prog_3_method_5_code 96 [79, 42, 180, 0, 15, 21, 4, 42, 180, 0, 15, 21, 4, 4, 100, 46, 79, 132, 4, 255, 167, 255, 215, 42, 180, 0, 9, 29, 27, 79, 42, 180, 0, 15, 29, 28] := chW_of (by decide +kernel)
theorem d_3_5_119 : decode prog_3_method_5_code 119 = .ok (.aload_n 0, 1) := D_42 W_prog_3_method_5_code_96 23 rfl rfl
theorem d_3_5_120 : decode prog_3_method_5_code 120 = .ok (.getfield 9, 3) := D_180 W_prog_3_method_5_code_96 24 rfl rfl rfl
theorem d_3_5_123 : decode prog_3_method_5_code 123 = .ok (.iload_n 3, 1) := D_29 W_prog_3_method_5_code_96 27 rfl rfl
theorem d_3_5_124 : decode prog_3_method_5_code 124 = .ok (.iload_n 1, 1) := D_27 W_prog_3_method_5_code_96 28 rfl rfl
theorem d_3_5_125 : decode prog_3_method_5_code 125 = .ok (.iastore, 1) := D_79 W_prog_3_method_5_code_96 29 rfl rfl
theorem d_3_5_126 : decode prog_3_method_5_code 126 = .ok (.aload_n 0, 1) := D_42 W_prog_3_method_5_code_96 30 rfl rfl
theorem d_3_5_127 : decode prog_3_method_5_code 127 = .ok (.getfield 15, 3) := D_180 W_prog_3_method_5_code_96 31 rfl rfl rfl
theorem W_prog_3_method_5_code_128 : chW prog_3_method_5_code 128 [0, 15, 29, 28, 79, 42, 89, 180, 0, 18, 4, 96, 181, 0, 18, 4, 172] := chW_of (by decide +kernel)
theorem d_3_5_130 : decode prog_3_method_5_code 130 = .ok (.iload_n 3, 1) := D_29 W_prog_3_method_5_code_128 2 rfl rfl
theorem d_3_5_131 : decode prog_3_method_5_code 131 = .ok (.iload_n 2, 1) := D_28 W_prog_3_method_5_code_128 3 rfl rfl
theorem d_3_5_132 : decode prog_3_method_5_code 132 = .ok (.iastore, 1) := D_79 W_prog_3_method_5_code_128 4 rfl rfl
theorem d_3_5_133 : decode prog_3_method_5_code 133 = .ok (.aload_n 0, 1) := D_42 W_prog_3_method_5_code_128 5 rfl rfl
theorem d_3_5_134 : decode prog_3_method_5_code 134 = .ok (.dup, 1) := D_89 W_prog_3_method_5_code_128 6 rfl rfl
theorem d_3_5_135 : decode prog_3_method_5_code 135 = .ok (.getfield 18, 3) := D_180 W_prog_3_method_5_code_128 7 rfl rfl rfl
theorem d_3_5_138 : decode prog_3_method_5_code 138 = .ok (.iconst 1, 1) := D_4 W_prog_3_method_5_code_128 10 rfl rfl
theorem d_3_5_139 : decode prog_3_method_5_code 139 = .ok (.iadd, 1) := D_96 W_prog_3_method_5_code_128 11 rfl rfl
theorem d_3_5_140 : decode prog_3_method_5_code 140 = .ok (.putfield 18, 3) := D_181 W_prog_3_method_5_code_128 12 rfl rfl rfl
theorem d_3_5_143 : decode prog_3_method_5_code 143 = .ok (.iconst 1, 1) := D_4 W_prog_3_method_5_code_128 15 rfl rfl
theorem d_3_5_144 : decode prog_3_method_5_code 144 = .ok (.ireturn, 1) := D_172 W_prog_3_method_5_code_128 16 rfl rfl
theorem d_3_5_81 : decode prog_3_method_5_code 81 = .ok (.aload_n 0, 1) := D_42 W_prog_3_method_5_code_64 17 rfl rfl
theorem d_3_5_82 : decode prog_3_method_5_code 82 = .ok (.getfield 9, 3) := D_180 W_prog_3_method_5_code_64 18 rfl rfl rfl
theorem d_3_5_85 : decode prog_3_method_5_code 85 = .ok (.iload 4, 2) := D_21 W_prog_3_method_5_code_64 21 rfl rfl
theorem d_3_5_87 : decode prog_3_method_5_code 87 = .ok (.aload_n 0, 1) := D_42 W_prog_3_method_5_code_64 23 rfl rfl
theorem d_3_5_88 : decode prog_3_method_5_code 88 = .ok (.getfield 9, 3) := D_180 W_prog_3_method_5_code_64 24 rfl rfl rfl
theorem d_3_5_91 : decode prog_3_method_5_code 91 = .ok (.iload 4, 2) := D_21 W_prog_3_method_5_code_64 27 rfl rfl
theorem d_3_5_93 : decode prog_3_method_5_code 93 = .ok (.iconst 1, 1) := D_4 W_prog_3_method_5_code_64 29 rfl rfl
theorem d_3_5_94 : decode prog_3_method_5_code 94 = .ok (.isub, 1) := D_100 W_prog_3_method_5_code_64 30 rfl rfl
theorem d_3_5_95 : decode prog_3_method_5_code 95 = .ok (.iaload, 1) := D_46 W_prog_3_method_5_code_64 31 rfl rfl
theorem d_3_5_96 : decode prog_3_method_5_code 96 = .ok (.iastore, 1) := D_79 W_prog_3_method_5_code_96 0 rfl rfl
theorem d_3_5_97 : decode prog_3_method_5_code 97 = .ok (.aload_n 0, 1) := D_42 W_prog_3_method_5_code_96 1 rfl rfl
theorem d_3_5_98 : decode prog_3_method_5_code 98 = .ok (.getfield 15, 3) := D_180 W_prog_3_method_5_code_96 2 rfl rfl rfl
theorem d_3_5_101 : decode prog_3_method_5_code 101 = .ok (.iload 4, 2) := D_21 W_prog_3_method_5_code_96 5 rfl rfl
theorem d_3_5_103 : decode prog_3_method_5_code 103 = .ok (.aload_n 0, 1) := D_42 W_prog_3_method_5_code_96 7 rfl rfl
theorem d_3_5_104 : decode prog_3_method_5_code 104 = .ok (.getfield 15, 3) := D_180 W_prog_3_method_5_code_96 8 rfl rfl rfl
theorem d_3_5_107 : decode prog_3_method_5_code 107 = .ok (.iload 4, 2) := D_21 W_prog_3_method_5_code_96 11 rfl rfl
theorem d_3_5_109 : decode prog_3_method_5_code 109 = .ok (.iconst 1, 1) := D_4 W_prog_3_method_5_code_96 13 rfl rfl
theorem d_3_5_110 : decode prog_3_method_5_code 110 = .ok (.isub, 1) := D_100 W_prog_3_method_5_code_96 14 rfl rfl
theorem d_3_5_111 : decode prog_3_method_5_code 111 = .ok (.iaload, 1) := D_46 W_prog_3_method_5_code_96 15 rfl rfl
theorem d_3_5_112 : decode prog_3_method_5_code 112 = .ok (.iastore, 1) := D_79 W_prog_3_method_5_code_96 16 rfl rfl
theorem d_3_5_113 : decode prog_3_method_5_code 113 = .ok (.iinc 4 (-1), 3) := D_132 W_prog_3_method_5_code_96 17 rfl rfl rfl
theorem d_3_5_116 : decode prog_3_method_5_code 116 = .ok (.goto (-41), 3) := D_167 W_prog_3_method_5_code_96 20 rfl rfl rfl
theorem W_prog_3_method_3_code_0 : chW prog_3_method_3_code 0 [42, 180, 0, 22, 27, 126, 153, 0, 7, 4, 167, 0, 4, 3, 172] := chW_of (by decide +kernel)
theorem d_3_3_0 : decode prog_3_method_3_code 0 = .ok (.aload_n 0, 1) := D_42 W_prog_3_method_3_code_0 0 rfl rfl
theorem d_3_3_1 : decode prog_3_method_3_code 1 = .ok (.getfield 22, 3) := D_180 W_prog_3_method_3_code_0 1 rfl rfl rfl
theorem d_3_3_4 : decode prog_3_method_3_code 4 = .ok (.iload_n 1, 1) := D_27 W_prog_3_method_3_code_0 4 rfl rfl
theorem d_3_3_5 : decode prog_3_method_3_code 5 = .ok (.iand, 1) := D_126 W_prog_3_method_3_code_0 5 rfl rfl
theorem d_3_3_6 : decode prog_3_method_3_code 6 = .ok (.ifCond .eq 7, 3) := D_153 W_prog_3_method_3_code_0 6 rfl rfl rfl
theorem d_3_3_13 : decode prog_3_method_3_code 13 = .ok (.iconst 0, 1) := D_3 W_prog_3_method_3_code_0 13 rfl rfl
theorem d_3_3_9 : decode prog_3_method_3_code 9 = .ok (.iconst 1, 1) := D_4 W_prog_3_method_3_code_0 9 rfl rfl
theorem d_3_3_10 : decode prog_3_method_3_code 10 = .ok (.goto 4, 3) := D_167 W_prog_3_method_3_code_0 10 rfl rfl rfl
theorem d_3_3_14 : decode prog_3_method_3_code 14 = .ok (.ireturn, 1) := D_172 W_prog_3_method_3_code_0 14 rfl rfl
theorem W_prog_13_method_11_code_0 : chW prog_13_method_11_code 0 [27, 62, 3, 54, 4, 21, 4, 178, 0, 145, 190, 162, 0, 55, 3, 54, 5, 21, 5, 7, 162, 0, 40, 29, 178, 0, 145, 21, 4, 46, 112, 154, 0, 29, 29, 178] := chW_of (by decide +kernel)
theorem d_13_11_0 : decode prog_13_method_11_code 0 = .ok (.iload_n 1, 1) := D_27 W_prog_13_method_11_code_0 0 rfl rfl
theorem d_13_11_1 : decode prog_13_method_11_code 1 = .ok (.istore_n 3, 1) := D_62 W_prog_13_method_11_code_0 1 rfl rfl
theorem d_13_11_2 : decode prog_13_method_11_code 2 = .ok (.iconst 0, 1) := D_3 W_prog_13_method_11_code_0 2 rfl rfl
theorem d_13_11_3 : decode prog_13_method_11_code 3 = .ok (.istore 4, 2) := D_54 W_prog_13_method_11_code_0 3 rfl rfl
theorem d_13_11_5 : decode prog_13_method_11_code 5 = .ok (.iload 4, 2) := D_21 W_prog_13_method_11_code_0 5 rfl rfl
theorem d_13_11_7 : decode prog_13_method_11_code 7 = .ok (.getstatic 145, 3) := D_178 W_prog_13_method_11_code_0 7 rfl rfl rfl
theorem d_13_11_10 : decode prog_13_method_11_code 10 = .ok (.arraylength, 1) := D_190 W_prog_13_method_11_code_0 10 rfl rfl
theorem d_13_11_11 : decode prog_13_method_11_code 11 = .ok (.if_icmp .ge 55, 3) := D_162 W_prog_13_method_11_code_0 11 rfl rfl rfl
theorem W_prog_13_method_11_code_64 : chW prog_13_method_11_code 64 [255, 198, 177] := chW_of (by decide +kernel)
theorem d_13_11_66 : decode prog_13_method_11_code 66 = .ok (.return_, 1) := D_177 W_prog_13_method_11_code_64 2 rfl rfl
theorem d_13_11_14 : decode prog_13_method_11_code 14 = .ok (.iconst 0, 1) := D_3 W_prog_13_method_11_code_0 14 rfl rfl
theorem d_13_11_15 : decode prog_13_method_11_code 15 = .ok (.istore 5, 2) := D_54 W_prog_13_method_11_code_0 15 rfl rfl
theorem d_13_11_17 : decode prog_13_method_11_code 17 = .ok (.iload 5, 2) := D_21 W_prog_13_method_11_code_0 17 rfl rfl
theorem d_13_11_19 : decode prog_13_method_11_code 19 = .ok (.iconst 4, 1) := D_7 W_prog_13_method_11_code_0 19 rfl rfl
theorem d_13_11_20 : decode prog_13_method_11_code 20 = .ok (.if_icmp .ge 40, 3) := D_162 W_prog_13_method_11_code_0 20 rfl rfl rfl
theorem d_13_11_23 : decode prog_13_method_11_code 23 = .ok (.iload_n 3, 1) := D_29 W_prog_13_method_11_code_0 23 rfl rfl
theorem d_13_11_24 : decode prog_13_method_11_code 24 = .ok (.getstatic 145, 3) := D_178 W_prog_13_method_11_code_0 24 rfl rfl rfl
theorem d_13_11_27 : decode prog_13_method_11_code 27 = .ok (.iload 4, 2) := D_21 W_prog_13_method_11_code_0 27 rfl rfl
theorem d_13_11_29 : decode prog_13_method_11_code 29 = .ok (.iaload, 1) := D_46 W_prog_13_method_11_code_0 29 rfl rfl
theorem d_13_11_30 : decode prog_13_method_11_code 30 = .ok (.irem, 1) := D_112 W_prog_13_method_11_code_0 30 rfl rfl
theorem d_13_11_31 : decode prog_13_method_11_code 31 = .ok (.ifCond .ne 29, 3) := D_154 W_prog_13_method_11_code_0 31 rfl rfl rfl
theorem W_prog_13_method_11_code_32 : chW prog_13_method_11_code 32 [0, 29, 29, 178, 0, 145, 21, 4, 46, 108, 62, 42, 180, 0, 9, 21, 4, 92, 46, 28, 96, 79, 132, 5, 1, 167, 255, 216, 132, 4, 1, 167, 255, 198, 177] := chW_of (by decide +kernel)
theorem d_13_11_34 : decode prog_13_method_11_code 34 = .ok (.iload_n 3, 1) := D_29 W_prog_13_method_11_code_32 2 rfl rfl
theorem d_13_11_35 : decode prog_13_method_11_code 35 = .ok (.getstatic 145, 3) := D_178 W_prog_13_method_11_code_32 3 rfl rfl rfl
theorem d_13_11_38 : decode prog_13_method_11_code 38 = .ok (.iload 4, 2) := D_21 W_prog_13_method_11_code_32 6 rfl rfl
theorem d_13_11_40 : decode prog_13_method_11_code 40 = .ok (.iaload, 1) := D_46 W_prog_13_method_11_code_32 8 rfl rfl
theorem d_13_11_41 : decode prog_13_method_11_code 41 = .ok (.idiv, 1) := D_108 W_prog_13_method_11_code_32 9 rfl rfl
theorem d_13_11_42 : decode prog_13_method_11_code 42 = .ok (.istore_n 3, 1) := D_62 W_prog_13_method_11_code_32 10 rfl rfl
theorem d_13_11_43 : decode prog_13_method_11_code 43 = .ok (.aload_n 0, 1) := D_42 W_prog_13_method_11_code_32 11 rfl rfl
theorem d_13_11_44 : decode prog_13_method_11_code 44 = .ok (.getfield 9, 3) := D_180 W_prog_13_method_11_code_32 12 rfl rfl rfl
theorem d_13_11_47 : decode prog_13_method_11_code 47 = .ok (.iload 4, 2) := D_21 W_prog_13_method_11_code_32 15 rfl rfl
theorem d_13_11_49 : decode prog_13_method_11_code 49 = .ok (.dup2, 1) := D_92 W_prog_13_method_11_code_32 17 rfl rfl
theorem d_13_11_50 : decode prog_13_method_11_code 50 = .ok (.iaload, 1) := D_46 W_prog_13_method_11_code_32 18 rfl rfl
theorem d_13_11_51 : decode prog_13_method_11_code 51 = .ok (.iload_n 2, 1) := D_28 W_prog_13_method_11_code_32 19 rfl rfl
theorem d_13_11_52 : decode prog_13_method_11_code 52 = .ok (.iadd, 1) := D_96 W_prog_13_method_11_code_32 20 rfl rfl
theorem d_13_11_53 : decode prog_13_method_11_code 53 = .ok (.iastore, 1) := D_79 W_prog_13_method_11_code_32 21 rfl rfl
theorem d_13_11_54 : decode prog_13_method_11_code 54 = .ok (.iinc 5 1, 3) := D_132 W_prog_13_method_11_code_32 22 rfl rfl rfl
theorem d_13_11_57 : decode prog_13_method_11_code 57 = .ok (.goto (-40), 3) := D_167 W_prog_13_method_11_code_32 25 rfl rfl rfl
theorem d_13_11_60 : decode prog_13_method_11_code 60 = .ok (.iinc 4 1, 3) := D_132 W_prog_13_method_11_code_32 28 rfl rfl rfl
theorem d_13_11_63 : decode prog_13_method_11_code 63 = .ok (.goto (-58), 3) := D_167 W_prog_13_method_11_code_32 31 rfl rfl rfl
theorem W_prog_6_method_5_code_0 : chW prog_6_method_5_code 0 [42, 9, 181, 0, 38, 3, 60, 27, 42, 180, 0, 31, 162, 0, 40, 42, 180, 0, 11, 27, 50, 42, 180, 0, 38, 181, 0, 84, 42, 89, 180, 0, 38, 42, 180, 0] := chW_of (by decide +kernel)
theorem d_6_5_0 : decode prog_6_method_5_code 0 = .ok (.aload_n 0, 1) := D_42 W_prog_6_method_5_code_0 0 rfl rfl
theorem d_6_5_1 : decode prog_6_method_5_code 1 = .ok (.lconst 0, 1) := D_9 W_prog_6_method_5_code_0 1 rfl rfl
theorem d_6_5_2 : decode prog_6_method_5_code 2 = .ok (.putfield 38, 3) := D_181 W_prog_6_method_5_code_0 2 rfl rfl rfl
theorem d_6_5_5 : decode prog_6_method_5_code 5 = .ok (.iconst 0, 1) := D_3 W_prog_6_method_5_code_0 5 rfl rfl
theorem d_6_5_6 : decode prog_6_method_5_code 6 = .ok (.istore_n 1, 1) := D_60 W_prog_6_method_5_code_0 6 rfl rfl
theorem d_6_5_7 : decode prog_6_method_5_code 7 = .ok (.iload_n 1, 1) := D_27 W_prog_6_method_5_code_0 7 rfl rfl
theorem d_6_5_8 : decode prog_6_method_5_code 8 = .ok (.aload_n 0, 1) := D_42 W_prog_6_method_5_code_0 8 rfl rfl
theorem d_6_5_9 : decode prog_6_method_5_code 9 = .ok (.getfield 31, 3) := D_180 W_prog_6_method_5_code_0 9 rfl rfl rfl
theorem d_6_5_12 : decode prog_6_method_5_code 12 = .ok (.if_icmp .ge 40, 3) := D_162 W_prog_6_method_5_code_0 12 rfl rfl rfl
theorem W_prog_6_method_5_code_32 : chW prog_6_method_5_code 32 [38, 42, 180, 0, 11, 27, 50, 180, 0, 87, 97, 181, 0, 38, 132, 1, 1, 167, 255, 214, 177] := chW_of (by decide +kernel)
theorem d_6_5_52 : decode prog_6_method_5_code 52 = .ok (.return_, 1) := D_177 W_prog_6_method_5_code_32 20 rfl rfl
theorem d_6_5_15 : decode prog_6_method_5_code 15 = .ok (.aload_n 0, 1) := D_42 W_prog_6_method_5_code_0 15 rfl rfl
theorem d_6_5_16 : decode prog_6_method_5_code 16 = .ok (.getfield 11, 3) := D_180 W_prog_6_method_5_code_0 16 rfl rfl rfl
theorem d_6_5_19 : decode prog_6_method_5_code 19 = .ok (.iload_n 1, 1) := D_27 W_prog_6_method_5_code_0 19 rfl rfl
theorem d_6_5_20 : decode prog_6_method_5_code 20 = .ok (.aaload, 1) := D_50 W_prog_6_method_5_code_0 20 rfl rfl
theorem d_6_5_21 : decode prog_6_method_5_code 21 = .ok (.aload_n 0, 1) := D_42 W_prog_6_method_5_code_0 21 rfl rfl
theorem d_6_5_22 : decode prog_6_method_5_code 22 = .ok (.getfield 38, 3) := D_180 W_prog_6_method_5_code_0 22 rfl rfl rfl
theorem d_6_5_25 : decode prog_6_method_5_code 25 = .ok (.putfield 84, 3) := D_181 W_prog_6_method_5_code_0 25 rfl rfl rfl
theorem d_6_5_28 : decode prog_6_method_5_code 28 = .ok (.aload_n 0, 1) := D_42 W_prog_6_method_5_code_0 28 rfl rfl
theorem d_6_5_29 : decode prog_6_method_5_code 29 = .ok (.dup, 1) := D_89 W_prog_6_method_5_code_0 29 rfl rfl
theorem d_6_5_30 : decode prog_6_method_5_code 30 = .ok (.getfield 38, 3) := D_180 W_prog_6_method_5_code_0 30 rfl rfl rfl
theorem d_6_5_33 : decode prog_6_method_5_code 33 = .ok (.aload_n 0, 1) := D_42 W_prog_6_method_5_code_32 1 rfl rfl
theorem d_6_5_34 : decode prog_6_method_5_code 34 = .ok (.getfield 11, 3) := D_180 W_prog_6_method_5_code_32 2 rfl rfl rfl
theorem d_6_5_37 : decode prog_6_method_5_code 37 = .ok (.iload_n 1, 1) := D_27 W_prog_6_method_5_code_32 5 rfl rfl
theorem d_6_5_38 : decode prog_6_method_5_code 38 = .ok (.aaload, 1) := D_50 W_prog_6_method_5_code_32 6 rfl rfl
theorem d_6_5_39 : decode prog_6_method_5_code 39 = .ok (.getfield 87, 3) := D_180 W_prog_6_method_5_code_32 7 rfl rfl rfl
theorem d_6_5_42 : decode prog_6_method_5_code 42 = .ok (.ladd, 1) := D_97 W_prog_6_method_5_code_32 10 rfl rfl
theorem d_6_5_43 : decode prog_6_method_5_code 43 = .ok (.putfield 38, 3) := D_181 W_prog_6_method_5_code_32 11 rfl rfl rfl
theorem d_6_5_46 : decode prog_6_method_5_code 46 = .ok (.iinc 1 1, 3) := D_132 W_prog_6_method_5_code_32 14 rfl rfl rfl
theorem d_6_5_49 : decode prog_6_method_5_code 49 = .ok (.goto (-42), 3) := D_167 W_prog_6_method_5_code_32 17 rfl rfl rfl
theorem W_prog_6_method_6_code_0 : chW prog_6_method_6_code 0 [42, 180, 0, 11, 27, 50, 180, 0, 90, 54, 4, 21, 4, 153, 0, 29, 27, 158, 0, 19, 42, 180, 0, 11, 27, 4, 100, 50, 180, 0, 90, 21, 4, 159, 0, 9] := chW_of (by decide +kernel)
theorem d_6_6_0 : decode prog_6_method_6_code 0 = .ok (.aload_n 0, 1) := D_42 W_prog_6_method_6_code_0 0 rfl rfl
theorem d_6_6_1 : decode prog_6_method_6_code 1 = .ok (.getfield 11, 3) := D_180 W_prog_6_method_6_code_0 1 rfl rfl rfl
theorem d_6_6_4 : decode prog_6_method_6_code 4 = .ok (.iload_n 1, 1) := D_27 W_prog_6_method_6_code_0 4 rfl rfl
theorem d_6_6_5 : decode prog_6_method_6_code 5 = .ok (.aaload, 1) := D_50 W_prog_6_method_6_code_0 5 rfl rfl
theorem d_6_6_6 : decode prog_6_method_6_code 6 = .ok (.getfield 90, 3) := D_180 W_prog_6_method_6_code_0 6 rfl rfl rfl
theorem d_6_6_9 : decode prog_6_method_6_code 9 = .ok (.istore 4, 2) := D_54 W_prog_6_method_6_code_0 9 rfl rfl
theorem d_6_6_11 : decode prog_6_method_6_code 11 = .ok (.iload 4, 2) := D_21 W_prog_6_method_6_code_0 11 rfl rfl
theorem d_6_6_13 : decode prog_6_method_6_code 13 = .ok (.ifCond .eq 29, 3) := D_153 W_prog_6_method_6_code_0 13 rfl rfl rfl
theorem d_6_6_16 : decode prog_6_method_6_code 16 = .ok (.iload_n 1, 1) := D_27 W_prog_6_method_6_code_0 16 rfl rfl
theorem d_6_6_17 : decode prog_6_method_6_code 17 = .ok (.ifCond .le 19, 3) := D_158 W_prog_6_method_6_code_0 17 rfl rfl rfl
theorem d_6_6_20 : decode prog_6_method_6_code 20 = .ok (.aload_n 0, 1) := D_42 W_prog_6_method_6_code_0 20 rfl rfl
theorem d_6_6_21 : decode prog_6_method_6_code 21 = .ok (.getfield 11, 3) := D_180 W_prog_6_method_6_code_0 21 rfl rfl rfl
theorem d_6_6_24 : decode prog_6_method_6_code 24 = .ok (.iload_n 1, 1) := D_27 W_prog_6_method_6_code_0 24 rfl rfl
theorem d_6_6_25 : decode prog_6_method_6_code 25 = .ok (.iconst 1, 1) := D_4 W_prog_6_method_6_code_0 25 rfl rfl
theorem d_6_6_26 : decode prog_6_method_6_code 26 = .ok (.isub, 1) := D_100 W_prog_6_method_6_code_0 26 rfl rfl
theorem d_6_6_27 : decode prog_6_method_6_code 27 = .ok (.aaload, 1) := D_50 W_prog_6_method_6_code_0 27 rfl rfl
theorem d_6_6_28 : decode prog_6_method_6_code 28 = .ok (.getfield 90, 3) := D_180 W_prog_6_method_6_code_0 28 rfl rfl rfl
theorem d_6_6_31 : decode prog_6_method_6_code 31 = .ok (.iload 4, 2) := D_21 W_prog_6_method_6_code_0 31 rfl rfl
theorem W_prog_6_method_6_code_32 : chW prog_6_method_6_code 32 [4, 159, 0, 9, 32, 9, 148, 157, 0, 5, 4, 172, 42, 180, 0, 11, 27, 50, 180, 0, 84, 55, 5, 22, 5, 55, 7, 27, 54, 9, 21, 9, 42, 180, 0, 31] := chW_of (by decide +kernel)
theorem d_6_6_33 : decode prog_6_method_6_code 33 = .ok (.if_icmp .eq 9, 3) := D_159 W_prog_6_method_6_code_32 1 rfl rfl rfl
theorem d_6_6_36 : decode prog_6_method_6_code 36 = .ok (.lload_n 2, 1) := D_32 W_prog_6_method_6_code_32 4 rfl rfl
theorem d_6_6_37 : decode prog_6_method_6_code 37 = .ok (.lconst 0, 1) := D_9 W_prog_6_method_6_code_32 5 rfl rfl
theorem d_6_6_38 : decode prog_6_method_6_code 38 = .ok (.lcmp, 1) := D_148 W_prog_6_method_6_code_32 6 rfl rfl
theorem d_6_6_39 : decode prog_6_method_6_code 39 = .ok (.ifCond .gt 5, 3) := D_157 W_prog_6_method_6_code_32 7 rfl rfl rfl
theorem d_6_6_44 : decode prog_6_method_6_code 44 = .ok (.aload_n 0, 1) := D_42 W_prog_6_method_6_code_32 12 rfl rfl
theorem d_6_6_45 : decode prog_6_method_6_code 45 = .ok (.getfield 11, 3) := D_180 W_prog_6_method_6_code_32 13 rfl rfl rfl
theorem d_6_6_48 : decode prog_6_method_6_code 48 = .ok (.iload_n 1, 1) := D_27 W_prog_6_method_6_code_32 16 rfl rfl
theorem d_6_6_49 : decode prog_6_method_6_code 49 = .ok (.aaload, 1) := D_50 W_prog_6_method_6_code_32 17 rfl rfl
theorem d_6_6_50 : decode prog_6_method_6_code 50 = .ok (.getfield 84, 3) := D_180 W_prog_6_method_6_code_32 18 rfl rfl rfl
theorem d_6_6_53 : decode prog_6_method_6_code 53 = .ok (.lstore 5, 2) := D_55 W_prog_6_method_6_code_32 21 rfl rfl
theorem d_6_6_55 : decode prog_6_method_6_code 55 = .ok (.lload 5, 2) := D_22 W_prog_6_method_6_code_32 23 rfl rfl
theorem d_6_6_57 : decode prog_6_method_6_code 57 = .ok (.lstore 7, 2) := D_55 W_prog_6_method_6_code_32 25 rfl rfl
theorem d_6_6_59 : decode prog_6_method_6_code 59 = .ok (.iload_n 1, 1) := D_27 W_prog_6_method_6_code_32 27 rfl rfl
theorem d_6_6_60 : decode prog_6_method_6_code 60 = .ok (.istore 9, 2) := D_54 W_prog_6_method_6_code_32 28 rfl rfl
theorem d_6_6_42 : decode prog_6_method_6_code 42 = .ok (.iconst 1, 1) := D_4 W_prog_6_method_6_code_32 10 rfl rfl
theorem d_6_6_43 : decode prog_6_method_6_code 43 = .ok (.ireturn, 1) := D_172 W_prog_6_method_6_code_32 11 rfl rfl
theorem d_6_6_62 : decode prog_6_method_6_code 62 = .ok (.iload 9, 2) := D_21 W_prog_6_method_6_code_32 30 rfl rfl
theorem W_prog_6_method_6_code_64 : chW prog_6_method_6_code 64 [42, 180, 0, 31, 162, 0, 39, 42, 180, 0, 11, 21, 9, 50, 180, 0, 90, 21, 4, 160, 0, 24, 22, 7, 42, 180, 0, 11, 21, 9, 50, 180, 0, 87, 97, 55] := chW_of (by decide +kernel)
theorem d_6_6_64 : decode prog_6_method_6_code 64 = .ok (.aload_n 0, 1) := D_42 W_prog_6_method_6_code_64 0 rfl rfl
theorem d_6_6_65 : decode prog_6_method_6_code 65 = .ok (.getfield 31, 3) := D_180 W_prog_6_method_6_code_64 1 rfl rfl rfl
theorem d_6_6_68 : decode prog_6_method_6_code 68 = .ok (.if_icmp .ge 39, 3) := D_162 W_prog_6_method_6_code_64 4 rfl rfl rfl
theorem d_6_6_71 : decode prog_6_method_6_code 71 = .ok (.aload_n 0, 1) := D_42 W_prog_6_method_6_code_64 7 rfl rfl
theorem d_6_6_72 : decode prog_6_method_6_code 72 = .ok (.getfield 11, 3) := D_180 W_prog_6_method_6_code_64 8 rfl rfl rfl
theorem d_6_6_75 : decode prog_6_method_6_code 75 = .ok (.iload 9, 2) := D_21 W_prog_6_method_6_code_64 11 rfl rfl
theorem d_6_6_77 : decode prog_6_method_6_code 77 = .ok (.aaload, 1) := D_50 W_prog_6_method_6_code_64 13 rfl rfl
theorem d_6_6_78 : decode prog_6_method_6_code 78 = .ok (.getfield 90, 3) := D_180 W_prog_6_method_6_code_64 14 rfl rfl rfl
theorem d_6_6_81 : decode prog_6_method_6_code 81 = .ok (.iload 4, 2) := D_21 W_prog_6_method_6_code_64 17 rfl rfl
theorem d_6_6_83 : decode prog_6_method_6_code 83 = .ok (.if_icmp .ne 24, 3) := D_160 W_prog_6_method_6_code_64 19 rfl rfl rfl
theorem d_6_6_86 : decode prog_6_method_6_code 86 = .ok (.lload 7, 2) := D_22 W_prog_6_method_6_code_64 22 rfl rfl
theorem d_6_6_88 : decode prog_6_method_6_code 88 = .ok (.aload_n 0, 1) := D_42 W_prog_6_method_6_code_64 24 rfl rfl
theorem d_6_6_89 : decode prog_6_method_6_code 89 = .ok (.getfield 11, 3) := D_180 W_prog_6_method_6_code_64 25 rfl rfl rfl
theorem d_6_6_92 : decode prog_6_method_6_code 92 = .ok (.iload 9, 2) := D_21 W_prog_6_method_6_code_64 28 rfl rfl
theorem d_6_6_94 : decode prog_6_method_6_code 94 = .ok (.aaload, 1) := D_50 W_prog_6_method_6_code_64 30 rfl rfl
theorem d_6_6_95 : decode prog_6_method_6_code 95 = .ok (.getfield 87, 3) := D_180 W_prog_6_method_6_code_64 31 rfl rfl rfl
theorem W_prog_6_method_6_code_96 : chW prog_6_method_6_code 96 [0, 87, 97, 55, 7, 132, 9, 1, 167, 255, 214, 22, 5, 32, 109, 22, 7, 10, 101, 32, 109, 148, 154, 0, 21, 22, 7, 22, 5, 101, 20, 0, 93, 113, 9, 148] := chW_of (by decide +kernel)
theorem d_6_6_98 : decode prog_6_method_6_code 98 = .ok (.ladd, 1) := D_97 W_prog_6_method_6_code_96 2 rfl rfl
theorem d_6_6_99 : decode prog_6_method_6_code 99 = .ok (.lstore 7, 2) := D_55 W_prog_6_method_6_code_96 3 rfl rfl
theorem d_6_6_101 : decode prog_6_method_6_code 101 = .ok (.iinc 9 1, 3) := D_132 W_prog_6_method_6_code_96 5 rfl rfl rfl
theorem d_6_6_104 : decode prog_6_method_6_code 104 = .ok (.goto (-42), 3) := D_167 W_prog_6_method_6_code_96 8 rfl rfl rfl
theorem d_6_6_107 : decode prog_6_method_6_code 107 = .ok (.lload 5, 2) := D_22 W_prog_6_method_6_code_96 11 rfl rfl
theorem d_6_6_109 : decode prog_6_method_6_code 109 = .ok (.lload_n 2, 1) := D_32 W_prog_6_method_6_code_96 13 rfl rfl
theorem d_6_6_110 : decode prog_6_method_6_code 110 = .ok (.ldiv, 1) := D_109 W_prog_6_method_6_code_96 14 rfl rfl
theorem d_6_6_111 : decode prog_6_method_6_code 111 = .ok (.lload 7, 2) := D_22 W_prog_6_method_6_code_96 15 rfl rfl
theorem d_6_6_113 : decode prog_6_method_6_code 113 = .ok (.lconst 1, 1) := D_10 W_prog_6_method_6_code_96 17 rfl rfl
theorem d_6_6_114 : decode prog_6_method_6_code 114 = .ok (.lsub, 1) := D_101 W_prog_6_method_6_code_96 18 rfl rfl
theorem d_6_6_115 : decode prog_6_method_6_code 115 = .ok (.lload_n 2, 1) := D_32 W_prog_6_method_6_code_96 19 rfl rfl
theorem d_6_6_116 : decode prog_6_method_6_code 116 = .ok (.ldiv, 1) := D_109 W_prog_6_method_6_code_96 20 rfl rfl
theorem d_6_6_117 : decode prog_6_method_6_code 117 = .ok (.lcmp, 1) := D_148 W_prog_6_method_6_code_96 21 rfl rfl
theorem d_6_6_118 : decode prog_6_method_6_code 118 = .ok (.ifCond .ne 21, 3) := D_154 W_prog_6_method_6_code_96 22 rfl rfl rfl
theorem d_6_6_121 : decode prog_6_method_6_code 121 = .ok (.lload 7, 2) := D_22 W_prog_6_method_6_code_96 25 rfl rfl
theorem d_6_6_123 : decode prog_6_method_6_code 123 = .ok (.lload 5, 2) := D_22 W_prog_6_method_6_code_96 27 rfl rfl
theorem d_6_6_125 : decode prog_6_method_6_code 125 = .ok (.lsub, 1) := D_101 W_prog_6_method_6_code_96 29 rfl rfl
theorem d_6_6_126 : decode prog_6_method_6_code 126 = .ok (.ldc2_w 93, 3) := D_20 W_prog_6_method_6_code_96 30 rfl rfl rfl
theorem W_prog_6_method_6_code_128 : chW prog_6_method_6_code 128 [93, 113, 9, 148, 154, 0, 7, 4, 167, 0, 4, 3, 172] := chW_of (by decide +kernel)
theorem d_6_6_129 : decode prog_6_method_6_code 129 = .ok (.lrem, 1) := D_113 W_prog_6_method_6_code_128 1 rfl rfl
theorem d_6_6_130 : decode prog_6_method_6_code 130 = .ok (.lconst 0, 1) := D_9 W_prog_6_method_6_code_128 2 rfl rfl
theorem d_6_6_131 : decode prog_6_method_6_code 131 = .ok (.lcmp, 1) := D_148 W_prog_6_method_6_code_128 3 rfl rfl
theorem d_6_6_132 : decode prog_6_method_6_code 132 = .ok (.ifCond .ne 7, 3) := D_154 W_prog_6_method_6_code_128 4 rfl rfl rfl
theorem d_6_6_135 : decode prog_6_method_6_code 135 = .ok (.iconst 1, 1) := D_4 W_prog_6_method_6_code_128 7 rfl rfl
theorem d_6_6_136 : decode prog_6_method_6_code 136 = .ok (.goto 4, 3) := D_167 W_prog_6_method_6_code_128 8 rfl rfl rfl
theorem d_6_6_140 : decode prog_6_method_6_code 140 = .ok (.ireturn, 1) := D_172 W_prog_6_method_6_code_128 12 rfl rfl
theorem d_6_6_139 : decode prog_6_method_6_code 139 = .ok (.iconst 0, 1) := D_3 W_prog_6_method_6_code_128 11 rfl rfl
theorem W_prog_3_method_6_code_0 : chW prog_3_method_6_code 0 [3, 62, 29, 42, 180, 0, 18, 162, 0, 31, 42, 180, 0, 9, 29, 46, 27, 160, 0, 15, 42, 180, 0, 15, 29, 46, 28, 160, 0, 5, 4, 172, 132, 3, 1, 167] := chW_of (by decide +kernel)
theorem d_3_6_0 : decode prog_3_method_6_code 0 = .ok (.iconst 0, 1) := D_3 W_prog_3_method_6_code_0 0 rfl rfl
theorem d_3_6_1 : decode prog_3_method_6_code 1 = .ok (.istore_n 3, 1) := D_62 W_prog_3_method_6_code_0 1 rfl rfl
theorem d_3_6_2 : decode prog_3_method_6_code 2 = .ok (.iload_n 3, 1) := D_29 W_prog_3_method_6_code_0 2 rfl rfl
theorem d_3_6_3 : decode prog_3_method_6_code 3 = .ok (.aload_n 0, 1) := D_42 W_prog_3_method_6_code_0 3 rfl rfl
theorem d_3_6_4 : decode prog_3_method_6_code 4 = .ok (.getfield 18, 3) := D_180 W_prog_3_method_6_code_0 4 rfl rfl rfl
theorem d_3_6_7 : decode prog_3_method_6_code 7 = .ok (.if_icmp .ge 31, 3) := D_162 W_prog_3_method_6_code_0 7 rfl rfl rfl
theorem W_prog_3_method_6_code_32 : chW prog_3_method_6_code 32 [132, 3, 1, 167, 255, 223, 3, 172] := chW_of (by decide +kernel)
theorem d_3_6_38 : decode prog_3_method_6_code 38 = .ok (.iconst 0, 1) := D_3 W_prog_3_method_6_code_32 6 rfl rfl
theorem d_3_6_39 : decode prog_3_method_6_code 39 = .ok (.ireturn, 1) := D_172 W_prog_3_method_6_code_32 7 rfl rfl
theorem d_3_6_10 : decode prog_3_method_6_code 10 = .ok (.aload_n 0, 1) := D_42 W_prog_3_method_6_code_0 10 rfl rfl
theorem d_3_6_11 : decode prog_3_method_6_code 11 = .ok (.getfield 9, 3) := D_180 W_prog_3_method_6_code_0 11 rfl rfl rfl
theorem d_3_6_14 : decode prog_3_method_6_code 14 = .ok (.iload_n 3, 1) := D_29 W_prog_3_method_6_code_0 14 rfl rfl
theorem d_3_6_15 : decode prog_3_method_6_code 15 = .ok (.iaload, 1) := D_46 W_prog_3_method_6_code_0 15 rfl rfl
theorem d_3_6_16 : decode prog_3_method_6_code 16 = .ok (.iload_n 1, 1) := D_27 W_prog_3_method_6_code_0 16 rfl rfl
theorem d_3_6_17 : decode prog_3_method_6_code 17 = .ok (.if_icmp .ne 15, 3) := D_160 W_prog_3_method_6_code_0 17 rfl rfl rfl
theorem d_3_6_20 : decode prog_3_method_6_code 20 = .ok (.aload_n 0, 1) := D_42 W_prog_3_method_6_code_0 20 rfl rfl
theorem d_3_6_21 : decode prog_3_method_6_code 21 = .ok (.getfield 15, 3) := D_180 W_prog_3_method_6_code_0 21 rfl rfl rfl
theorem d_3_6_24 : decode prog_3_method_6_code 24 = .ok (.iload_n 3, 1) := D_29 W_prog_3_method_6_code_0 24 rfl rfl
theorem d_3_6_25 : decode prog_3_method_6_code 25 = .ok (.iaload, 1) := D_46 W_prog_3_method_6_code_0 25 rfl rfl
theorem d_3_6_26 : decode prog_3_method_6_code 26 = .ok (.iload_n 2, 1) := D_28 W_prog_3_method_6_code_0 26 rfl rfl
theorem d_3_6_27 : decode prog_3_method_6_code 27 = .ok (.if_icmp .ne 5, 3) := D_160 W_prog_3_method_6_code_0 27 rfl rfl rfl
theorem d_3_6_30 : decode prog_3_method_6_code 30 = .ok (.iconst 1, 1) := D_4 W_prog_3_method_6_code_0 30 rfl rfl
theorem d_3_6_31 : decode prog_3_method_6_code 31 = .ok (.ireturn, 1) := D_172 W_prog_3_method_6_code_0 31 rfl rfl
theorem d_3_6_32 : decode prog_3_method_6_code 32 = .ok (.iinc 3 1, 3) := D_132 W_prog_3_method_6_code_32 0 rfl rfl rfl
theorem d_3_6_35 : decode prog_3_method_6_code 35 = .ok (.goto (-33), 3) := D_167 W_prog_3_method_6_code_32 3 rfl rfl rfl
theorem W_prog_1_method_40_code_0 : chW prog_1_method_40_code 0 [17, 2, 0, 26, 6, 108, 122, 178, 1, 99, 5, 26, 6, 112, 100, 46, 104, 7, 108, 172] := chW_of (by decide +kernel)
theorem d_1_40_0 : decode prog_1_method_40_code 0 = .ok (.sipush 512, 3) := D_17 W_prog_1_method_40_code_0 0 rfl rfl rfl
theorem d_1_40_3 : decode prog_1_method_40_code 3 = .ok (.iload_n 0, 1) := D_26 W_prog_1_method_40_code_0 3 rfl rfl
theorem d_1_40_4 : decode prog_1_method_40_code 4 = .ok (.iconst 3, 1) := D_6 W_prog_1_method_40_code_0 4 rfl rfl
theorem d_1_40_5 : decode prog_1_method_40_code 5 = .ok (.idiv, 1) := D_108 W_prog_1_method_40_code_0 5 rfl rfl
theorem d_1_40_6 : decode prog_1_method_40_code 6 = .ok (.ishr, 1) := D_122 W_prog_1_method_40_code_0 6 rfl rfl
theorem d_1_40_7 : decode prog_1_method_40_code 7 = .ok (.getstatic 355, 3) := D_178 W_prog_1_method_40_code_0 7 rfl rfl rfl
theorem d_1_40_10 : decode prog_1_method_40_code 10 = .ok (.iconst 2, 1) := D_5 W_prog_1_method_40_code_0 10 rfl rfl
theorem d_1_40_11 : decode prog_1_method_40_code 11 = .ok (.iload_n 0, 1) := D_26 W_prog_1_method_40_code_0 11 rfl rfl
theorem d_1_40_12 : decode prog_1_method_40_code 12 = .ok (.iconst 3, 1) := D_6 W_prog_1_method_40_code_0 12 rfl rfl
theorem d_1_40_13 : decode prog_1_method_40_code 13 = .ok (.irem, 1) := D_112 W_prog_1_method_40_code_0 13 rfl rfl
theorem d_1_40_14 : decode prog_1_method_40_code 14 = .ok (.isub, 1) := D_100 W_prog_1_method_40_code_0 14 rfl rfl
theorem d_1_40_15 : decode prog_1_method_40_code 15 = .ok (.iaload, 1) := D_46 W_prog_1_method_40_code_0 15 rfl rfl
theorem d_1_40_16 : decode prog_1_method_40_code 16 = .ok (.imul, 1) := D_104 W_prog_1_method_40_code_0 16 rfl rfl
theorem d_1_40_17 : decode prog_1_method_40_code 17 = .ok (.iconst 4, 1) := D_7 W_prog_1_method_40_code_0 17 rfl rfl
theorem d_1_40_18 : decode prog_1_method_40_code 18 = .ok (.idiv, 1) := D_108 W_prog_1_method_40_code_0 18 rfl rfl
theorem d_1_40_19 : decode prog_1_method_40_code 19 = .ok (.ireturn, 1) := D_172 W_prog_1_method_40_code_0 19 rfl rfl
theorem W_prog_6_method_13_code_0 : chW prog_6_method_13_code 0 [42, 180, 0, 35, 17, 3, 32, 161, 0, 9, 42, 4, 181, 0, 81, 177, 42, 180, 0, 35, 54, 6, 42, 180, 0, 19, 3, 50, 21, 6, 27, 79, 42, 180, 0, 19] := chW_of (by decide +kernel)
theorem d_6_13_0 : decode prog_6_method_13_code 0 = .ok (.aload_n 0, 1) := D_42 W_prog_6_method_13_code_0 0 rfl rfl
theorem d_6_13_1 : decode prog_6_method_13_code 1 = .ok (.getfield 35, 3) := D_180 W_prog_6_method_13_code_0 1 rfl rfl rfl
theorem d_6_13_4 : decode prog_6_method_13_code 4 = .ok (.sipush 800, 3) := D_17 W_prog_6_method_13_code_0 4 rfl rfl rfl
theorem d_6_13_7 : decode prog_6_method_13_code 7 = .ok (.if_icmp .lt 9, 3) := D_161 W_prog_6_method_13_code_0 7 rfl rfl rfl
theorem d_6_13_16 : decode prog_6_method_13_code 16 = .ok (.aload_n 0, 1) := D_42 W_prog_6_method_13_code_0 16 rfl rfl
theorem d_6_13_17 : decode prog_6_method_13_code 17 = .ok (.getfield 35, 3) := D_180 W_prog_6_method_13_code_0 17 rfl rfl rfl
theorem d_6_13_20 : decode prog_6_method_13_code 20 = .ok (.istore 6, 2) := D_54 W_prog_6_method_13_code_0 20 rfl rfl
theorem d_6_13_22 : decode prog_6_method_13_code 22 = .ok (.aload_n 0, 1) := D_42 W_prog_6_method_13_code_0 22 rfl rfl
theorem d_6_13_23 : decode prog_6_method_13_code 23 = .ok (.getfield 19, 3) := D_180 W_prog_6_method_13_code_0 23 rfl rfl rfl
theorem d_6_13_26 : decode prog_6_method_13_code 26 = .ok (.iconst 0, 1) := D_3 W_prog_6_method_13_code_0 26 rfl rfl
theorem d_6_13_27 : decode prog_6_method_13_code 27 = .ok (.aaload, 1) := D_50 W_prog_6_method_13_code_0 27 rfl rfl
theorem d_6_13_28 : decode prog_6_method_13_code 28 = .ok (.iload 6, 2) := D_21 W_prog_6_method_13_code_0 28 rfl rfl
theorem d_6_13_30 : decode prog_6_method_13_code 30 = .ok (.iload_n 1, 1) := D_27 W_prog_6_method_13_code_0 30 rfl rfl
theorem d_6_13_31 : decode prog_6_method_13_code 31 = .ok (.iastore, 1) := D_79 W_prog_6_method_13_code_0 31 rfl rfl
theorem W_prog_6_method_13_code_32 : chW prog_6_method_13_code 32 [42, 180, 0, 19, 4, 50, 21, 6, 28, 79, 42, 180, 0, 22, 21, 6, 33, 80, 42, 180, 0, 19, 7, 50, 21, 6, 21, 5, 6, 108, 79, 42, 180, 0, 19, 8] := chW_of (by decide +kernel)
theorem d_6_13_32 : decode prog_6_method_13_code 32 = .ok (.aload_n 0, 1) := D_42 W_prog_6_method_13_code_32 0 rfl rfl
theorem d_6_13_33 : decode prog_6_method_13_code 33 = .ok (.getfield 19, 3) := D_180 W_prog_6_method_13_code_32 1 rfl rfl rfl
theorem d_6_13_36 : decode prog_6_method_13_code 36 = .ok (.iconst 1, 1) := D_4 W_prog_6_method_13_code_32 4 rfl rfl
theorem d_6_13_37 : decode prog_6_method_13_code 37 = .ok (.aaload, 1) := D_50 W_prog_6_method_13_code_32 5 rfl rfl
theorem d_6_13_38 : decode prog_6_method_13_code 38 = .ok (.iload 6, 2) := D_21 W_prog_6_method_13_code_32 6 rfl rfl
theorem d_6_13_40 : decode prog_6_method_13_code 40 = .ok (.iload_n 2, 1) := D_28 W_prog_6_method_13_code_32 8 rfl rfl
theorem d_6_13_41 : decode prog_6_method_13_code 41 = .ok (.iastore, 1) := D_79 W_prog_6_method_13_code_32 9 rfl rfl
theorem d_6_13_42 : decode prog_6_method_13_code 42 = .ok (.aload_n 0, 1) := D_42 W_prog_6_method_13_code_32 10 rfl rfl
theorem d_6_13_43 : decode prog_6_method_13_code 43 = .ok (.getfield 22, 3) := D_180 W_prog_6_method_13_code_32 11 rfl rfl rfl
theorem d_6_13_46 : decode prog_6_method_13_code 46 = .ok (.iload 6, 2) := D_21 W_prog_6_method_13_code_32 14 rfl rfl
theorem d_6_13_48 : decode prog_6_method_13_code 48 = .ok (.lload_n 3, 1) := D_33 W_prog_6_method_13_code_32 16 rfl rfl
theorem d_6_13_49 : decode prog_6_method_13_code 49 = .ok (.lastore, 1) := D_80 W_prog_6_method_13_code_32 17 rfl rfl
theorem d_6_13_50 : decode prog_6_method_13_code 50 = .ok (.aload_n 0, 1) := D_42 W_prog_6_method_13_code_32 18 rfl rfl
theorem d_6_13_51 : decode prog_6_method_13_code 51 = .ok (.getfield 19, 3) := D_180 W_prog_6_method_13_code_32 19 rfl rfl rfl
theorem d_6_13_54 : decode prog_6_method_13_code 54 = .ok (.iconst 4, 1) := D_7 W_prog_6_method_13_code_32 22 rfl rfl
theorem d_6_13_55 : decode prog_6_method_13_code 55 = .ok (.aaload, 1) := D_50 W_prog_6_method_13_code_32 23 rfl rfl
theorem d_6_13_56 : decode prog_6_method_13_code 56 = .ok (.iload 6, 2) := D_21 W_prog_6_method_13_code_32 24 rfl rfl
theorem d_6_13_58 : decode prog_6_method_13_code 58 = .ok (.iload 5, 2) := D_21 W_prog_6_method_13_code_32 26 rfl rfl
theorem d_6_13_60 : decode prog_6_method_13_code 60 = .ok (.iconst 3, 1) := D_6 W_prog_6_method_13_code_32 28 rfl rfl
theorem d_6_13_61 : decode prog_6_method_13_code 61 = .ok (.idiv, 1) := D_108 W_prog_6_method_13_code_32 29 rfl rfl
theorem d_6_13_62 : decode prog_6_method_13_code 62 = .ok (.iastore, 1) := D_79 W_prog_6_method_13_code_32 30 rfl rfl
theorem d_6_13_63 : decode prog_6_method_13_code 63 = .ok (.aload_n 0, 1) := D_42 W_prog_6_method_13_code_32 31 rfl rfl
theorem W_prog_6_method_13_code_64 : chW prog_6_method_13_code 64 [180, 0, 19, 8, 50, 21, 6, 5, 21, 5, 6, 112, 100, 79, 42, 89, 180, 0, 35, 4, 96, 181, 0, 35, 177] := chW_of (by decide +kernel)
theorem d_6_13_64 : decode prog_6_method_13_code 64 = .ok (.getfield 19, 3) := D_180 W_prog_6_method_13_code_64 0 rfl rfl rfl
theorem d_6_13_67 : decode prog_6_method_13_code 67 = .ok (.iconst 5, 1) := D_8 W_prog_6_method_13_code_64 3 rfl rfl
theorem d_6_13_68 : decode prog_6_method_13_code 68 = .ok (.aaload, 1) := D_50 W_prog_6_method_13_code_64 4 rfl rfl
theorem d_6_13_69 : decode prog_6_method_13_code 69 = .ok (.iload 6, 2) := D_21 W_prog_6_method_13_code_64 5 rfl rfl
theorem d_6_13_71 : decode prog_6_method_13_code 71 = .ok (.iconst 2, 1) := D_5 W_prog_6_method_13_code_64 7 rfl rfl
theorem d_6_13_72 : decode prog_6_method_13_code 72 = .ok (.iload 5, 2) := D_21 W_prog_6_method_13_code_64 8 rfl rfl
theorem d_6_13_74 : decode prog_6_method_13_code 74 = .ok (.iconst 3, 1) := D_6 W_prog_6_method_13_code_64 10 rfl rfl
theorem d_6_13_75 : decode prog_6_method_13_code 75 = .ok (.irem, 1) := D_112 W_prog_6_method_13_code_64 11 rfl rfl
theorem d_6_13_76 : decode prog_6_method_13_code 76 = .ok (.isub, 1) := D_100 W_prog_6_method_13_code_64 12 rfl rfl
theorem d_6_13_77 : decode prog_6_method_13_code 77 = .ok (.iastore, 1) := D_79 W_prog_6_method_13_code_64 13 rfl rfl
theorem d_6_13_78 : decode prog_6_method_13_code 78 = .ok (.aload_n 0, 1) := D_42 W_prog_6_method_13_code_64 14 rfl rfl
theorem d_6_13_79 : decode prog_6_method_13_code 79 = .ok (.dup, 1) := D_89 W_prog_6_method_13_code_64 15 rfl rfl
theorem d_6_13_80 : decode prog_6_method_13_code 80 = .ok (.getfield 35, 3) := D_180 W_prog_6_method_13_code_64 16 rfl rfl rfl
theorem d_6_13_83 : decode prog_6_method_13_code 83 = .ok (.iconst 1, 1) := D_4 W_prog_6_method_13_code_64 19 rfl rfl
theorem d_6_13_84 : decode prog_6_method_13_code 84 = .ok (.iadd, 1) := D_96 W_prog_6_method_13_code_64 20 rfl rfl
theorem d_6_13_85 : decode prog_6_method_13_code 85 = .ok (.putfield 35, 3) := D_181 W_prog_6_method_13_code_64 21 rfl rfl rfl
theorem d_6_13_88 : decode prog_6_method_13_code 88 = .ok (.return_, 1) := D_177 W_prog_6_method_13_code_64 24 rfl rfl
theorem d_6_13_10 : decode prog_6_method_13_code 10 = .ok (.aload_n 0, 1) := D_42 W_prog_6_method_13_code_0 10 rfl rfl
theorem d_6_13_11 : decode prog_6_method_13_code 11 = .ok (.iconst 1, 1) := D_4 W_prog_6_method_13_code_0 11 rfl rfl
theorem d_6_13_12 : decode prog_6_method_13_code 12 = .ok (.putfield 81, 3) := D_181 W_prog_6_method_13_code_0 12 rfl rfl rfl
theorem d_6_13_15 : decode prog_6_method_13_code 15 = .ok (.return_, 1) := D_177 W_prog_6_method_13_code_0 15 rfl rfl
theorem W_prog_3_method_2_code_0 : chW prog_3_method_2_code 0 [42, 180, 0, 18, 154, 0, 7, 4, 167, 0, 4, 3, 172] := chW_of (by decide +kernel)
theorem d_3_2_0 : decode prog_3_method_2_code 0 = .ok (.aload_n 0, 1) := D_42 W_prog_3_method_2_code_0 0 rfl rfl
theorem d_3_2_1 : decode prog_3_method_2_code 1 = .ok (.getfield 18, 3) := D_180 W_prog_3_method_2_code_0 1 rfl rfl rfl
theorem d_3_2_4 : decode prog_3_method_2_code 4 = .ok (.ifCond .ne 7, 3) := D_154 W_prog_3_method_2_code_0 4 rfl rfl rfl
theorem d_3_2_11 : decode prog_3_method_2_code 11 = .ok (.iconst 0, 1) := D_3 W_prog_3_method_2_code_0 11 rfl rfl
theorem d_3_2_7 : decode prog_3_method_2_code 7 = .ok (.iconst 1, 1) := D_4 W_prog_3_method_2_code_0 7 rfl rfl
theorem d_3_2_8 : decode prog_3_method_2_code 8 = .ok (.goto 4, 3) := D_167 W_prog_3_method_2_code_0 8 rfl rfl rfl
theorem d_3_2_12 : decode prog_3_method_2_code 12 = .ok (.ireturn, 1) := D_172 W_prog_3_method_2_code_0 12 rfl rfl
theorem W_prog_1_method_39_code_0 : chW prog_1_method_39_code 0 [27, 16, 8, 161, 0, 11, 26, 6, 112, 154, 0, 5, 6, 172, 27, 7, 163, 0, 7, 4, 167, 0, 4, 5, 172] := chW_of (by decide +kernel)
theorem d_1_39_0 : decode prog_1_method_39_code 0 = .ok (.iload_n 1, 1) := D_27 W_prog_1_method_39_code_0 0 rfl rfl
theorem d_1_39_1 : decode prog_1_method_39_code 1 = .ok (.bipush 8, 2) := D_16 W_prog_1_method_39_code_0 1 rfl rfl rfl
theorem d_1_39_3 : decode prog_1_method_39_code 3 = .ok (.if_icmp .lt 11, 3) := D_161 W_prog_1_method_39_code_0 3 rfl rfl rfl
theorem d_1_39_6 : decode prog_1_method_39_code 6 = .ok (.iload_n 0, 1) := D_26 W_prog_1_method_39_code_0 6 rfl rfl
theorem d_1_39_7 : decode prog_1_method_39_code 7 = .ok (.iconst 3, 1) := D_6 W_prog_1_method_39_code_0 7 rfl rfl
theorem d_1_39_8 : decode prog_1_method_39_code 8 = .ok (.irem, 1) := D_112 W_prog_1_method_39_code_0 8 rfl rfl
theorem d_1_39_9 : decode prog_1_method_39_code 9 = .ok (.ifCond .ne 5, 3) := D_154 W_prog_1_method_39_code_0 9 rfl rfl rfl
theorem d_1_39_12 : decode prog_1_method_39_code 12 = .ok (.iconst 3, 1) := D_6 W_prog_1_method_39_code_0 12 rfl rfl
theorem d_1_39_13 : decode prog_1_method_39_code 13 = .ok (.ireturn, 1) := D_172 W_prog_1_method_39_code_0 13 rfl rfl
theorem d_1_39_14 : decode prog_1_method_39_code 14 = .ok (.iload_n 1, 1) := D_27 W_prog_1_method_39_code_0 14 rfl rfl
theorem d_1_39_15 : decode prog_1_method_39_code 15 = .ok (.iconst 4, 1) := D_7 W_prog_1_method_39_code_0 15 rfl rfl
theorem d_1_39_16 : decode prog_1_method_39_code 16 = .ok (.if_icmp .gt 7, 3) := D_163 W_prog_1_method_39_code_0 16 rfl rfl rfl
theorem d_1_39_23 : decode prog_1_method_39_code 23 = .ok (.iconst 2, 1) := D_5 W_prog_1_method_39_code_0 23 rfl rfl
theorem d_1_39_19 : decode prog_1_method_39_code 19 = .ok (.iconst 1, 1) := D_4 W_prog_1_method_39_code_0 19 rfl rfl
theorem d_1_39_20 : decode prog_1_method_39_code 20 = .ok (.goto 4, 3) := D_167 W_prog_1_method_39_code_0 20 rfl rfl rfl
theorem d_1_39_24 : decode prog_1_method_39_code 24 = .ok (.ireturn, 1) := D_172 W_prog_1_method_39_code_0 24 rfl rfl
theorem W_prog_1_method_43_code_0 : chW prog_1_method_43_code 0 [29, 153, 0, 8, 29, 26, 160, 0, 6, 16, 9, 172, 26, 5, 28, 104, 112, 154, 0, 13, 5, 29, 104, 26, 160, 0, 6, 16, 8, 172, 29, 27, 112, 154, 0, 6] := chW_of (by decide +kernel)
theorem d_1_43_0 : decode prog_1_method_43_code 0 = .ok (.iload_n 3, 1) := D_29 W_prog_1_method_43_code_0 0 rfl rfl
theorem d_1_43_1 : decode prog_1_method_43_code 1 = .ok (.ifCond .eq 8, 3) := D_153 W_prog_1_method_43_code_0 1 rfl rfl rfl
theorem d_1_43_4 : decode prog_1_method_43_code 4 = .ok (.iload_n 3, 1) := D_29 W_prog_1_method_43_code_0 4 rfl rfl
theorem d_1_43_5 : decode prog_1_method_43_code 5 = .ok (.iload_n 0, 1) := D_26 W_prog_1_method_43_code_0 5 rfl rfl
theorem d_1_43_6 : decode prog_1_method_43_code 6 = .ok (.if_icmp .ne 6, 3) := D_160 W_prog_1_method_43_code_0 6 rfl rfl rfl
theorem d_1_43_12 : decode prog_1_method_43_code 12 = .ok (.iload_n 0, 1) := D_26 W_prog_1_method_43_code_0 12 rfl rfl
theorem d_1_43_13 : decode prog_1_method_43_code 13 = .ok (.iconst 2, 1) := D_5 W_prog_1_method_43_code_0 13 rfl rfl
theorem d_1_43_14 : decode prog_1_method_43_code 14 = .ok (.iload_n 2, 1) := D_28 W_prog_1_method_43_code_0 14 rfl rfl
theorem d_1_43_15 : decode prog_1_method_43_code 15 = .ok (.imul, 1) := D_104 W_prog_1_method_43_code_0 15 rfl rfl
theorem d_1_43_16 : decode prog_1_method_43_code 16 = .ok (.irem, 1) := D_112 W_prog_1_method_43_code_0 16 rfl rfl
theorem d_1_43_17 : decode prog_1_method_43_code 17 = .ok (.ifCond .ne 13, 3) := D_154 W_prog_1_method_43_code_0 17 rfl rfl rfl
theorem d_1_43_20 : decode prog_1_method_43_code 20 = .ok (.iconst 2, 1) := D_5 W_prog_1_method_43_code_0 20 rfl rfl
theorem d_1_43_21 : decode prog_1_method_43_code 21 = .ok (.iload_n 3, 1) := D_29 W_prog_1_method_43_code_0 21 rfl rfl
theorem d_1_43_22 : decode prog_1_method_43_code 22 = .ok (.imul, 1) := D_104 W_prog_1_method_43_code_0 22 rfl rfl
theorem d_1_43_23 : decode prog_1_method_43_code 23 = .ok (.iload_n 0, 1) := D_26 W_prog_1_method_43_code_0 23 rfl rfl
theorem d_1_43_24 : decode prog_1_method_43_code 24 = .ok (.if_icmp .ne 6, 3) := D_160 W_prog_1_method_43_code_0 24 rfl rfl rfl
theorem d_1_43_27 : decode prog_1_method_43_code 27 = .ok (.bipush 8, 2) := D_16 W_prog_1_method_43_code_0 27 rfl rfl rfl
theorem d_1_43_29 : decode prog_1_method_43_code 29 = .ok (.ireturn, 1) := D_172 W_prog_1_method_43_code_0 29 rfl rfl
theorem d_1_43_9 : decode prog_1_method_43_code 9 = .ok (.bipush 9, 2) := D_16 W_prog_1_method_43_code_0 9 rfl rfl rfl
theorem d_1_43_11 : decode prog_1_method_43_code 11 = .ok (.ireturn, 1) := D_172 W_prog_1_method_43_code_0 11 rfl rfl
theorem d_1_43_30 : decode prog_1_method_43_code 30 = .ok (.iload_n 3, 1) := D_29 W_prog_1_method_43_code_0 30 rfl rfl
theorem d_1_43_31 : decode prog_1_method_43_code 31 = .ok (.iload_n 1, 1) := D_27 W_prog_1_method_43_code_0 31 rfl rfl
theorem W_prog_1_method_43_code_32 : chW prog_1_method_43_code 32 [112, 154, 0, 6, 16, 7, 172, 3, 54, 4, 21, 4, 8, 162, 0, 24, 29, 28, 21, 4, 122, 112, 154, 0, 9, 16, 6, 21, 4, 100, 172, 132, 4, 1, 167, 255] := chW_of (by decide +kernel)
theorem d_1_43_32 : decode prog_1_method_43_code 32 = .ok (.irem, 1) := D_112 W_prog_1_method_43_code_32 0 rfl rfl
theorem d_1_43_33 : decode prog_1_method_43_code 33 = .ok (.ifCond .ne 6, 3) := D_154 W_prog_1_method_43_code_32 1 rfl rfl rfl
theorem d_1_43_39 : decode prog_1_method_43_code 39 = .ok (.iconst 0, 1) := D_3 W_prog_1_method_43_code_32 7 rfl rfl
theorem d_1_43_40 : decode prog_1_method_43_code 40 = .ok (.istore 4, 2) := D_54 W_prog_1_method_43_code_32 8 rfl rfl
theorem d_1_43_36 : decode prog_1_method_43_code 36 = .ok (.bipush 7, 2) := D_16 W_prog_1_method_43_code_32 4 rfl rfl rfl
theorem d_1_43_38 : decode prog_1_method_43_code 38 = .ok (.ireturn, 1) := D_172 W_prog_1_method_43_code_32 6 rfl rfl
theorem d_1_43_42 : decode prog_1_method_43_code 42 = .ok (.iload 4, 2) := D_21 W_prog_1_method_43_code_32 10 rfl rfl
theorem d_1_43_44 : decode prog_1_method_43_code 44 = .ok (.iconst 5, 1) := D_8 W_prog_1_method_43_code_32 12 rfl rfl
theorem d_1_43_45 : decode prog_1_method_43_code 45 = .ok (.if_icmp .ge 24, 3) := D_162 W_prog_1_method_43_code_32 13 rfl rfl rfl
theorem W_prog_1_method_43_code_64 : chW prog_1_method_43_code 64 [4, 1, 167, 255, 232, 4, 172] := chW_of (by decide +kernel)
theorem d_1_43_69 : decode prog_1_method_43_code 69 = .ok (.iconst 1, 1) := D_4 W_prog_1_method_43_code_64 5 rfl rfl
theorem d_1_43_70 : decode prog_1_method_43_code 70 = .ok (.ireturn, 1) := D_172 W_prog_1_method_43_code_64 6 rfl rfl
theorem d_1_43_48 : decode prog_1_method_43_code 48 = .ok (.iload_n 3, 1) := D_29 W_prog_1_method_43_code_32 16 rfl rfl
theorem d_1_43_49 : decode prog_1_method_43_code 49 = .ok (.iload_n 2, 1) := D_28 W_prog_1_method_43_code_32 17 rfl rfl
theorem d_1_43_50 : decode prog_1_method_43_code 50 = .ok (.iload 4, 2) := D_21 W_prog_1_method_43_code_32 18 rfl rfl
theorem d_1_43_52 : decode prog_1_method_43_code 52 = .ok (.ishr, 1) := D_122 W_prog_1_method_43_code_32 20 rfl rfl
theorem d_1_43_53 : decode prog_1_method_43_code 53 = .ok (.irem, 1) := D_112 W_prog_1_method_43_code_32 21 rfl rfl
theorem d_1_43_54 : decode prog_1_method_43_code 54 = .ok (.ifCond .ne 9, 3) := D_154 W_prog_1_method_43_code_32 22 rfl rfl rfl
theorem d_1_43_63 : decode prog_1_method_43_code 63 = .ok (.iinc 4 1, 3) := D_132 W_prog_1_method_43_code_32 31 rfl rfl rfl
theorem d_1_43_66 : decode prog_1_method_43_code 66 = .ok (.goto (-24), 3) := D_167 W_prog_1_method_43_code_64 2 rfl rfl rfl
theorem d_1_43_57 : decode prog_1_method_43_code 57 = .ok (.bipush 6, 2) := D_16 W_prog_1_method_43_code_32 25 rfl rfl rfl
theorem d_1_43_59 : decode prog_1_method_43_code 59 = .ok (.iload 4, 2) := D_21 W_prog_1_method_43_code_32 27 rfl rfl
theorem d_1_43_61 : decode prog_1_method_43_code 61 = .ok (.isub, 1) := D_100 W_prog_1_method_43_code_32 29 rfl rfl
theorem d_1_43_62 : decode prog_1_method_43_code 62 = .ok (.ireturn, 1) := D_172 W_prog_1_method_43_code_32 30 rfl rfl
theorem W_prog_1_method_44_code_0 : chW prog_1_method_44_code 0 [26, 5, 28, 104, 112, 154, 0, 21, 5, 29, 104, 26, 162, 0, 14, 26, 5, 21, 4, 104, 162, 0, 6, 16, 8, 172, 21, 4, 4, 100, 27, 108, 27, 104, 29, 164] := chW_of (by decide +kernel)
theorem d_1_44_0 : decode prog_1_method_44_code 0 = .ok (.iload_n 0, 1) := D_26 W_prog_1_method_44_code_0 0 rfl rfl
theorem d_1_44_1 : decode prog_1_method_44_code 1 = .ok (.iconst 2, 1) := D_5 W_prog_1_method_44_code_0 1 rfl rfl
theorem d_1_44_2 : decode prog_1_method_44_code 2 = .ok (.iload_n 2, 1) := D_28 W_prog_1_method_44_code_0 2 rfl rfl
theorem d_1_44_3 : decode prog_1_method_44_code 3 = .ok (.imul, 1) := D_104 W_prog_1_method_44_code_0 3 rfl rfl
theorem d_1_44_4 : decode prog_1_method_44_code 4 = .ok (.irem, 1) := D_112 W_prog_1_method_44_code_0 4 rfl rfl
theorem d_1_44_5 : decode prog_1_method_44_code 5 = .ok (.ifCond .ne 21, 3) := D_154 W_prog_1_method_44_code_0 5 rfl rfl rfl
theorem d_1_44_8 : decode prog_1_method_44_code 8 = .ok (.iconst 2, 1) := D_5 W_prog_1_method_44_code_0 8 rfl rfl
theorem d_1_44_9 : decode prog_1_method_44_code 9 = .ok (.iload_n 3, 1) := D_29 W_prog_1_method_44_code_0 9 rfl rfl
theorem d_1_44_10 : decode prog_1_method_44_code 10 = .ok (.imul, 1) := D_104 W_prog_1_method_44_code_0 10 rfl rfl
theorem d_1_44_11 : decode prog_1_method_44_code 11 = .ok (.iload_n 0, 1) := D_26 W_prog_1_method_44_code_0 11 rfl rfl
theorem d_1_44_12 : decode prog_1_method_44_code 12 = .ok (.if_icmp .ge 14, 3) := D_162 W_prog_1_method_44_code_0 12 rfl rfl rfl
theorem d_1_44_15 : decode prog_1_method_44_code 15 = .ok (.iload_n 0, 1) := D_26 W_prog_1_method_44_code_0 15 rfl rfl
theorem d_1_44_16 : decode prog_1_method_44_code 16 = .ok (.iconst 2, 1) := D_5 W_prog_1_method_44_code_0 16 rfl rfl
theorem d_1_44_17 : decode prog_1_method_44_code 17 = .ok (.iload 4, 2) := D_21 W_prog_1_method_44_code_0 17 rfl rfl
theorem d_1_44_19 : decode prog_1_method_44_code 19 = .ok (.imul, 1) := D_104 W_prog_1_method_44_code_0 19 rfl rfl
theorem d_1_44_20 : decode prog_1_method_44_code 20 = .ok (.if_icmp .ge 6, 3) := D_162 W_prog_1_method_44_code_0 20 rfl rfl rfl
theorem d_1_44_23 : decode prog_1_method_44_code 23 = .ok (.bipush 8, 2) := D_16 W_prog_1_method_44_code_0 23 rfl rfl rfl
theorem d_1_44_25 : decode prog_1_method_44_code 25 = .ok (.ireturn, 1) := D_172 W_prog_1_method_44_code_0 25 rfl rfl
theorem d_1_44_26 : decode prog_1_method_44_code 26 = .ok (.iload 4, 2) := D_21 W_prog_1_method_44_code_0 26 rfl rfl
theorem d_1_44_28 : decode prog_1_method_44_code 28 = .ok (.iconst 1, 1) := D_4 W_prog_1_method_44_code_0 28 rfl rfl
theorem d_1_44_29 : decode prog_1_method_44_code 29 = .ok (.isub, 1) := D_100 W_prog_1_method_44_code_0 29 rfl rfl
theorem d_1_44_30 : decode prog_1_method_44_code 30 = .ok (.iload_n 1, 1) := D_27 W_prog_1_method_44_code_0 30 rfl rfl
theorem d_1_44_31 : decode prog_1_method_44_code 31 = .ok (.idiv, 1) := D_108 W_prog_1_method_44_code_0 31 rfl rfl
theorem W_prog_1_method_44_code_32 : chW prog_1_method_44_code 32 [27, 104, 29, 164, 0, 6, 16, 7, 172, 3, 54, 5, 21, 5, 8, 162, 0, 35, 28, 21, 5, 122, 54, 6, 21, 4, 4, 100, 21, 6, 108, 21, 6, 104, 29, 164] := chW_of (by decide +kernel)
theorem d_1_44_32 : decode prog_1_method_44_code 32 = .ok (.iload_n 1, 1) := D_27 W_prog_1_method_44_code_32 0 rfl rfl
theorem d_1_44_33 : decode prog_1_method_44_code 33 = .ok (.imul, 1) := D_104 W_prog_1_method_44_code_32 1 rfl rfl
theorem d_1_44_34 : decode prog_1_method_44_code 34 = .ok (.iload_n 3, 1) := D_29 W_prog_1_method_44_code_32 2 rfl rfl
theorem d_1_44_35 : decode prog_1_method_44_code 35 = .ok (.if_icmp .le 6, 3) := D_164 W_prog_1_method_44_code_32 3 rfl rfl rfl
theorem d_1_44_41 : decode prog_1_method_44_code 41 = .ok (.iconst 0, 1) := D_3 W_prog_1_method_44_code_32 9 rfl rfl
theorem d_1_44_42 : decode prog_1_method_44_code 42 = .ok (.istore 5, 2) := D_54 W_prog_1_method_44_code_32 10 rfl rfl
theorem d_1_44_38 : decode prog_1_method_44_code 38 = .ok (.bipush 7, 2) := D_16 W_prog_1_method_44_code_32 6 rfl rfl rfl
theorem d_1_44_40 : decode prog_1_method_44_code 40 = .ok (.ireturn, 1) := D_172 W_prog_1_method_44_code_32 8 rfl rfl
theorem d_1_44_44 : decode prog_1_method_44_code 44 = .ok (.iload 5, 2) := D_21 W_prog_1_method_44_code_32 12 rfl rfl
theorem d_1_44_46 : decode prog_1_method_44_code 46 = .ok (.iconst 5, 1) := D_8 W_prog_1_method_44_code_32 14 rfl rfl
theorem d_1_44_47 : decode prog_1_method_44_code 47 = .ok (.if_icmp .ge 35, 3) := D_162 W_prog_1_method_44_code_32 15 rfl rfl rfl
theorem W_prog_1_method_44_code_64 : chW prog_1_method_44_code 64 [6, 104, 29, 164, 0, 9, 16, 6, 21, 5, 100, 172, 132, 5, 1, 167, 255, 221, 4, 172] := chW_of (by decide +kernel)
theorem d_1_44_82 : decode prog_1_method_44_code 82 = .ok (.iconst 1, 1) := D_4 W_prog_1_method_44_code_64 18 rfl rfl
theorem d_1_44_83 : decode prog_1_method_44_code 83 = .ok (.ireturn, 1) := D_172 W_prog_1_method_44_code_64 19 rfl rfl
theorem d_1_44_50 : decode prog_1_method_44_code 50 = .ok (.iload_n 2, 1) := D_28 W_prog_1_method_44_code_32 18 rfl rfl
theorem d_1_44_51 : decode prog_1_method_44_code 51 = .ok (.iload 5, 2) := D_21 W_prog_1_method_44_code_32 19 rfl rfl
theorem d_1_44_53 : decode prog_1_method_44_code 53 = .ok (.ishr, 1) := D_122 W_prog_1_method_44_code_32 21 rfl rfl
theorem d_1_44_54 : decode prog_1_method_44_code 54 = .ok (.istore 6, 2) := D_54 W_prog_1_method_44_code_32 22 rfl rfl
theorem d_1_44_56 : decode prog_1_method_44_code 56 = .ok (.iload 4, 2) := D_21 W_prog_1_method_44_code_32 24 rfl rfl
theorem d_1_44_58 : decode prog_1_method_44_code 58 = .ok (.iconst 1, 1) := D_4 W_prog_1_method_44_code_32 26 rfl rfl
theorem d_1_44_59 : decode prog_1_method_44_code 59 = .ok (.isub, 1) := D_100 W_prog_1_method_44_code_32 27 rfl rfl
theorem d_1_44_60 : decode prog_1_method_44_code 60 = .ok (.iload 6, 2) := D_21 W_prog_1_method_44_code_32 28 rfl rfl
theorem d_1_44_62 : decode prog_1_method_44_code 62 = .ok (.idiv, 1) := D_108 W_prog_1_method_44_code_32 30 rfl rfl
theorem d_1_44_63 : decode prog_1_method_44_code 63 = .ok (.iload 6, 2) := D_21 W_prog_1_method_44_code_32 31 rfl rfl
theorem d_1_44_65 : decode prog_1_method_44_code 65 = .ok (.imul, 1) := D_104 W_prog_1_method_44_code_64 1 rfl rfl
theorem d_1_44_66 : decode prog_1_method_44_code 66 = .ok (.iload_n 3, 1) := D_29 W_prog_1_method_44_code_64 2 rfl rfl
theorem d_1_44_67 : decode prog_1_method_44_code 67 = .ok (.if_icmp .le 9, 3) := D_164 W_prog_1_method_44_code_64 3 rfl rfl rfl
theorem d_1_44_76 : decode prog_1_method_44_code 76 = .ok (.iinc 5 1, 3) := D_132 W_prog_1_method_44_code_64 12 rfl rfl rfl
theorem d_1_44_79 : decode prog_1_method_44_code 79 = .ok (.goto (-35), 3) := D_167 W_prog_1_method_44_code_64 15 rfl rfl rfl
theorem d_1_44_70 : decode prog_1_method_44_code 70 = .ok (.bipush 6, 2) := D_16 W_prog_1_method_44_code_64 6 rfl rfl rfl
theorem d_1_44_72 : decode prog_1_method_44_code 72 = .ok (.iload 5, 2) := D_21 W_prog_1_method_44_code_64 8 rfl rfl
theorem d_1_44_74 : decode prog_1_method_44_code 74 = .ok (.isub, 1) := D_100 W_prog_1_method_44_code_64 10 rfl rfl
theorem d_1_44_75 : decode prog_1_method_44_code 75 = .ok (.ireturn, 1) := D_172 W_prog_1_method_44_code_64 11 rfl rfl
theorem W_prog_6_method_14_code_0 : chW prog_6_method_14_code 0 [42, 180, 0, 19, 3, 50, 27, 46, 61, 28, 155, 0, 23, 28, 42, 180, 0, 31, 162, 0, 15, 42, 180, 0, 11, 28, 50, 180, 0, 188, 154, 0, 7, 4, 167, 0] := chW_of (by decide +kernel)
theorem d_6_14_0 : decode prog_6_method_14_code 0 = .ok (.aload_n 0, 1) := D_42 W_prog_6_method_14_code_0 0 rfl rfl
theorem d_6_14_1 : decode prog_6_method_14_code 1 = .ok (.getfield 19, 3) := D_180 W_prog_6_method_14_code_0 1 rfl rfl rfl
theorem d_6_14_4 : decode prog_6_method_14_code 4 = .ok (.iconst 0, 1) := D_3 W_prog_6_method_14_code_0 4 rfl rfl
theorem d_6_14_5 : decode prog_6_method_14_code 5 = .ok (.aaload, 1) := D_50 W_prog_6_method_14_code_0 5 rfl rfl
theorem d_6_14_6 : decode prog_6_method_14_code 6 = .ok (.iload_n 1, 1) := D_27 W_prog_6_method_14_code_0 6 rfl rfl
theorem d_6_14_7 : decode prog_6_method_14_code 7 = .ok (.iaload, 1) := D_46 W_prog_6_method_14_code_0 7 rfl rfl
theorem d_6_14_8 : decode prog_6_method_14_code 8 = .ok (.istore_n 2, 1) := D_61 W_prog_6_method_14_code_0 8 rfl rfl
theorem d_6_14_9 : decode prog_6_method_14_code 9 = .ok (.iload_n 2, 1) := D_28 W_prog_6_method_14_code_0 9 rfl rfl
theorem d_6_14_10 : decode prog_6_method_14_code 10 = .ok (.ifCond .lt 23, 3) := D_155 W_prog_6_method_14_code_0 10 rfl rfl rfl
theorem d_6_14_13 : decode prog_6_method_14_code 13 = .ok (.iload_n 2, 1) := D_28 W_prog_6_method_14_code_0 13 rfl rfl
theorem d_6_14_14 : decode prog_6_method_14_code 14 = .ok (.aload_n 0, 1) := D_42 W_prog_6_method_14_code_0 14 rfl rfl
theorem d_6_14_15 : decode prog_6_method_14_code 15 = .ok (.getfield 31, 3) := D_180 W_prog_6_method_14_code_0 15 rfl rfl rfl
theorem d_6_14_18 : decode prog_6_method_14_code 18 = .ok (.if_icmp .ge 15, 3) := D_162 W_prog_6_method_14_code_0 18 rfl rfl rfl
theorem d_6_14_21 : decode prog_6_method_14_code 21 = .ok (.aload_n 0, 1) := D_42 W_prog_6_method_14_code_0 21 rfl rfl
theorem d_6_14_22 : decode prog_6_method_14_code 22 = .ok (.getfield 11, 3) := D_180 W_prog_6_method_14_code_0 22 rfl rfl rfl
theorem d_6_14_25 : decode prog_6_method_14_code 25 = .ok (.iload_n 2, 1) := D_28 W_prog_6_method_14_code_0 25 rfl rfl
theorem d_6_14_26 : decode prog_6_method_14_code 26 = .ok (.aaload, 1) := D_50 W_prog_6_method_14_code_0 26 rfl rfl
theorem d_6_14_27 : decode prog_6_method_14_code 27 = .ok (.getfield 188, 3) := D_180 W_prog_6_method_14_code_0 27 rfl rfl rfl
theorem d_6_14_30 : decode prog_6_method_14_code 30 = .ok (.ifCond .ne 7, 3) := D_154 W_prog_6_method_14_code_0 30 rfl rfl rfl
theorem W_prog_6_method_14_code_32 : chW prog_6_method_14_code 32 [7, 4, 167, 0, 4, 3, 172] := chW_of (by decide +kernel)
theorem d_6_14_37 : decode prog_6_method_14_code 37 = .ok (.iconst 0, 1) := D_3 W_prog_6_method_14_code_32 5 rfl rfl
theorem d_6_14_33 : decode prog_6_method_14_code 33 = .ok (.iconst 1, 1) := D_4 W_prog_6_method_14_code_32 1 rfl rfl
theorem d_6_14_34 : decode prog_6_method_14_code 34 = .ok (.goto 4, 3) := D_167 W_prog_6_method_14_code_32 2 rfl rfl rfl
theorem d_6_14_38 : decode prog_6_method_14_code 38 = .ok (.ireturn, 1) := D_172 W_prog_6_method_14_code_32 6 rfl rfl
theorem W_prog_6_method_15_code_0 : chW prog_6_method_15_code 0 [27, 158, 0, 36, 27, 42, 180, 0, 35, 162, 0, 28, 42, 180, 0, 19, 3, 50, 27, 46, 42, 180, 0, 19, 3, 50, 27, 4, 100, 46, 160, 0, 7, 4, 167, 0] := chW_of (by decide +kernel)
theorem d_6_15_0 : decode prog_6_method_15_code 0 = .ok (.iload_n 1, 1) := D_27 W_prog_6_method_15_code_0 0 rfl rfl
theorem d_6_15_1 : decode prog_6_method_15_code 1 = .ok (.ifCond .le 36, 3) := D_158 W_prog_6_method_15_code_0 1 rfl rfl rfl
theorem d_6_15_4 : decode prog_6_method_15_code 4 = .ok (.iload_n 1, 1) := D_27 W_prog_6_method_15_code_0 4 rfl rfl
theorem d_6_15_5 : decode prog_6_method_15_code 5 = .ok (.aload_n 0, 1) := D_42 W_prog_6_method_15_code_0 5 rfl rfl
theorem d_6_15_6 : decode prog_6_method_15_code 6 = .ok (.getfield 35, 3) := D_180 W_prog_6_method_15_code_0 6 rfl rfl rfl
theorem d_6_15_9 : decode prog_6_method_15_code 9 = .ok (.if_icmp .ge 28, 3) := D_162 W_prog_6_method_15_code_0 9 rfl rfl rfl
theorem d_6_15_12 : decode prog_6_method_15_code 12 = .ok (.aload_n 0, 1) := D_42 W_prog_6_method_15_code_0 12 rfl rfl
theorem d_6_15_13 : decode prog_6_method_15_code 13 = .ok (.getfield 19, 3) := D_180 W_prog_6_method_15_code_0 13 rfl rfl rfl
theorem d_6_15_16 : decode prog_6_method_15_code 16 = .ok (.iconst 0, 1) := D_3 W_prog_6_method_15_code_0 16 rfl rfl
theorem d_6_15_17 : decode prog_6_method_15_code 17 = .ok (.aaload, 1) := D_50 W_prog_6_method_15_code_0 17 rfl rfl
theorem d_6_15_18 : decode prog_6_method_15_code 18 = .ok (.iload_n 1, 1) := D_27 W_prog_6_method_15_code_0 18 rfl rfl
theorem d_6_15_19 : decode prog_6_method_15_code 19 = .ok (.iaload, 1) := D_46 W_prog_6_method_15_code_0 19 rfl rfl
theorem d_6_15_20 : decode prog_6_method_15_code 20 = .ok (.aload_n 0, 1) := D_42 W_prog_6_method_15_code_0 20 rfl rfl
theorem d_6_15_21 : decode prog_6_method_15_code 21 = .ok (.getfield 19, 3) := D_180 W_prog_6_method_15_code_0 21 rfl rfl rfl
theorem d_6_15_24 : decode prog_6_method_15_code 24 = .ok (.iconst 0, 1) := D_3 W_prog_6_method_15_code_0 24 rfl rfl
theorem d_6_15_25 : decode prog_6_method_15_code 25 = .ok (.aaload, 1) := D_50 W_prog_6_method_15_code_0 25 rfl rfl
theorem d_6_15_26 : decode prog_6_method_15_code 26 = .ok (.iload_n 1, 1) := D_27 W_prog_6_method_15_code_0 26 rfl rfl
theorem d_6_15_27 : decode prog_6_method_15_code 27 = .ok (.iconst 1, 1) := D_4 W_prog_6_method_15_code_0 27 rfl rfl
theorem d_6_15_28 : decode prog_6_method_15_code 28 = .ok (.isub, 1) := D_100 W_prog_6_method_15_code_0 28 rfl rfl
theorem d_6_15_29 : decode prog_6_method_15_code 29 = .ok (.iaload, 1) := D_46 W_prog_6_method_15_code_0 29 rfl rfl
theorem d_6_15_30 : decode prog_6_method_15_code 30 = .ok (.if_icmp .ne 7, 3) := D_160 W_prog_6_method_15_code_0 30 rfl rfl rfl
theorem W_prog_6_method_15_code_32 : chW prog_6_method_15_code 32 [7, 4, 167, 0, 4, 3, 172] := chW_of (by decide +kernel)
theorem d_6_15_33 : decode prog_6_method_15_code 33 = .ok (.iconst 1, 1) := D_4 W_prog_6_method_15_code_32 1 rfl rfl
theorem d_6_15_34 : decode prog_6_method_15_code 34 = .ok (.goto 4, 3) := D_167 W_prog_6_method_15_code_32 2 rfl rfl rfl
theorem d_6_15_38 : decode prog_6_method_15_code 38 = .ok (.ireturn, 1) := D_172 W_prog_6_method_15_code_32 6 rfl rfl
theorem d_6_15_37 : decode prog_6_method_15_code 37 = .ok (.iconst 0, 1) := D_3 W_prog_6_method_15_code_32 5 rfl rfl
theorem W_prog_1_method_38_code_0 : chW prog_1_method_38_code 0 [178, 1, 96, 27, 16, 7, 184, 1, 93, 46, 61, 26, 158, 0, 14, 28, 26, 162, 0, 7, 4, 167, 0, 4, 3, 172, 16, 6, 28, 100, 26, 116, 162, 0, 7, 2] := chW_of (by decide +kernel)
theorem d_1_38_0 : decode prog_1_method_38_code 0 = .ok (.getstatic 352, 3) := D_178 W_prog_1_method_38_code_0 0 rfl rfl rfl
theorem d_1_38_3 : decode prog_1_method_38_code 3 = .ok (.iload_n 1, 1) := D_27 W_prog_1_method_38_code_0 3 rfl rfl
theorem d_1_38_4 : decode prog_1_method_38_code 4 = .ok (.bipush 7, 2) := D_16 W_prog_1_method_38_code_0 4 rfl rfl rfl
theorem d_1_38_6 : decode prog_1_method_38_code 6 = .ok (.invokestatic 349, 3) := D_184 W_prog_1_method_38_code_0 6 rfl rfl rfl
theorem d_1_38_9 : decode prog_1_method_38_code 9 = .ok (.iaload, 1) := D_46 W_prog_1_method_38_code_0 9 rfl rfl
theorem d_1_38_10 : decode prog_1_method_38_code 10 = .ok (.istore_n 2, 1) := D_61 W_prog_1_method_38_code_0 10 rfl rfl
theorem d_1_38_11 : decode prog_1_method_38_code 11 = .ok (.iload_n 0, 1) := D_26 W_prog_1_method_38_code_0 11 rfl rfl
theorem d_1_38_12 : decode prog_1_method_38_code 12 = .ok (.ifCond .le 14, 3) := D_158 W_prog_1_method_38_code_0 12 rfl rfl rfl
theorem d_1_38_26 : decode prog_1_method_38_code 26 = .ok (.bipush 6, 2) := D_16 W_prog_1_method_38_code_0 26 rfl rfl rfl
theorem d_1_38_28 : decode prog_1_method_38_code 28 = .ok (.iload_n 2, 1) := D_28 W_prog_1_method_38_code_0 28 rfl rfl
theorem d_1_38_29 : decode prog_1_method_38_code 29 = .ok (.isub, 1) := D_100 W_prog_1_method_38_code_0 29 rfl rfl
theorem d_1_38_30 : decode prog_1_method_38_code 30 = .ok (.iload_n 0, 1) := D_26 W_prog_1_method_38_code_0 30 rfl rfl
theorem d_1_38_31 : decode prog_1_method_38_code 31 = .ok (.ineg, 1) := D_116 W_prog_1_method_38_code_0 31 rfl rfl
theorem W_prog_1_method_38_code_32 : chW prog_1_method_38_code 32 [162, 0, 7, 2, 167, 0, 4, 3, 172] := chW_of (by decide +kernel)
theorem d_1_38_32 : decode prog_1_method_38_code 32 = .ok (.if_icmp .ge 7, 3) := D_162 W_prog_1_method_38_code_32 0 rfl rfl rfl
theorem d_1_38_39 : decode prog_1_method_38_code 39 = .ok (.iconst 0, 1) := D_3 W_prog_1_method_38_code_32 7 rfl rfl
theorem d_1_38_35 : decode prog_1_method_38_code 35 = .ok (.iconst (-1), 1) := D_2 W_prog_1_method_38_code_32 3 rfl rfl
theorem d_1_38_36 : decode prog_1_method_38_code 36 = .ok (.goto 4, 3) := D_167 W_prog_1_method_38_code_32 4 rfl rfl rfl
theorem d_1_38_15 : decode prog_1_method_38_code 15 = .ok (.iload_n 2, 1) := D_28 W_prog_1_method_38_code_0 15 rfl rfl
theorem d_1_38_16 : decode prog_1_method_38_code 16 = .ok (.iload_n 0, 1) := D_26 W_prog_1_method_38_code_0 16 rfl rfl
theorem d_1_38_17 : decode prog_1_method_38_code 17 = .ok (.if_icmp .ge 7, 3) := D_162 W_prog_1_method_38_code_0 17 rfl rfl rfl
theorem d_1_38_24 : decode prog_1_method_38_code 24 = .ok (.iconst 0, 1) := D_3 W_prog_1_method_38_code_0 24 rfl rfl
theorem d_1_38_20 : decode prog_1_method_38_code 20 = .ok (.iconst 1, 1) := D_4 W_prog_1_method_38_code_0 20 rfl rfl
theorem d_1_38_21 : decode prog_1_method_38_code 21 = .ok (.goto 4, 3) := D_167 W_prog_1_method_38_code_0 21 rfl rfl rfl
theorem d_1_38_25 : decode prog_1_method_38_code 25 = .ok (.ireturn, 1) := D_172 W_prog_1_method_38_code_0 25 rfl rfl
theorem d_1_38_40 : decode prog_1_method_38_code 40 = .ok (.ireturn, 1) := D_172 W_prog_1_method_38_code_32 8 rfl rfl
theorem W_prog_6_method_8_code_0 : chW prog_6_method_8_code 0 [42, 180, 0, 11, 27, 50, 78, 27, 158, 0, 48, 42, 180, 0, 11, 27, 4, 100, 50, 4, 182, 0, 45, 153, 0, 33, 42, 180, 0, 11, 27, 4, 100, 50, 45, 180] := chW_of (by decide +kernel)
theorem d_6_8_0 : decode prog_6_method_8_code 0 = .ok (.aload_n 0, 1) := D_42 W_prog_6_method_8_code_0 0 rfl rfl
theorem d_6_8_1 : decode prog_6_method_8_code 1 = .ok (.getfield 11, 3) := D_180 W_prog_6_method_8_code_0 1 rfl rfl rfl
theorem d_6_8_4 : decode prog_6_method_8_code 4 = .ok (.iload_n 1, 1) := D_27 W_prog_6_method_8_code_0 4 rfl rfl
theorem d_6_8_5 : decode prog_6_method_8_code 5 = .ok (.aaload, 1) := D_50 W_prog_6_method_8_code_0 5 rfl rfl
theorem d_6_8_6 : decode prog_6_method_8_code 6 = .ok (.astore_n 3, 1) := D_78 W_prog_6_method_8_code_0 6 rfl rfl
theorem d_6_8_7 : decode prog_6_method_8_code 7 = .ok (.iload_n 1, 1) := D_27 W_prog_6_method_8_code_0 7 rfl rfl
theorem d_6_8_8 : decode prog_6_method_8_code 8 = .ok (.ifCond .le 48, 3) := D_158 W_prog_6_method_8_code_0 8 rfl rfl rfl
theorem d_6_8_11 : decode prog_6_method_8_code 11 = .ok (.aload_n 0, 1) := D_42 W_prog_6_method_8_code_0 11 rfl rfl
theorem d_6_8_12 : decode prog_6_method_8_code 12 = .ok (.getfield 11, 3) := D_180 W_prog_6_method_8_code_0 12 rfl rfl rfl
theorem d_6_8_15 : decode prog_6_method_8_code 15 = .ok (.iload_n 1, 1) := D_27 W_prog_6_method_8_code_0 15 rfl rfl
theorem d_6_8_16 : decode prog_6_method_8_code 16 = .ok (.iconst 1, 1) := D_4 W_prog_6_method_8_code_0 16 rfl rfl
theorem d_6_8_17 : decode prog_6_method_8_code 17 = .ok (.isub, 1) := D_100 W_prog_6_method_8_code_0 17 rfl rfl
theorem d_6_8_18 : decode prog_6_method_8_code 18 = .ok (.aaload, 1) := D_50 W_prog_6_method_8_code_0 18 rfl rfl
theorem d_6_8_19 : decode prog_6_method_8_code 19 = .ok (.iconst 1, 1) := D_4 W_prog_6_method_8_code_0 19 rfl rfl
theorem d_6_8_20 : decode prog_6_method_8_code 20 = .ok (.invokevirtual 45, 3) := D_182 W_prog_6_method_8_code_0 20 rfl rfl rfl
theorem d_6_8_23 : decode prog_6_method_8_code 23 = .ok (.ifCond .eq 33, 3) := D_153 W_prog_6_method_8_code_0 23 rfl rfl rfl
theorem d_6_8_26 : decode prog_6_method_8_code 26 = .ok (.aload_n 0, 1) := D_42 W_prog_6_method_8_code_0 26 rfl rfl
theorem d_6_8_27 : decode prog_6_method_8_code 27 = .ok (.getfield 11, 3) := D_180 W_prog_6_method_8_code_0 27 rfl rfl rfl
theorem d_6_8_30 : decode prog_6_method_8_code 30 = .ok (.iload_n 1, 1) := D_27 W_prog_6_method_8_code_0 30 rfl rfl
theorem d_6_8_31 : decode prog_6_method_8_code 31 = .ok (.iconst 1, 1) := D_4 W_prog_6_method_8_code_0 31 rfl rfl
theorem W_prog_6_method_8_code_32 : chW prog_6_method_8_code 32 [100, 50, 45, 180, 0, 99, 28, 46, 45, 180, 0, 102, 28, 46, 182, 0, 105, 153, 0, 7, 4, 167, 0, 4, 3, 172] := chW_of (by decide +kernel)
theorem d_6_8_32 : decode prog_6_method_8_code 32 = .ok (.isub, 1) := D_100 W_prog_6_method_8_code_32 0 rfl rfl
theorem d_6_8_33 : decode prog_6_method_8_code 33 = .ok (.aaload, 1) := D_50 W_prog_6_method_8_code_32 1 rfl rfl
theorem d_6_8_34 : decode prog_6_method_8_code 34 = .ok (.aload_n 3, 1) := D_45 W_prog_6_method_8_code_32 2 rfl rfl
theorem d_6_8_35 : decode prog_6_method_8_code 35 = .ok (.getfield 99, 3) := D_180 W_prog_6_method_8_code_32 3 rfl rfl rfl
theorem d_6_8_38 : decode prog_6_method_8_code 38 = .ok (.iload_n 2, 1) := D_28 W_prog_6_method_8_code_32 6 rfl rfl
theorem d_6_8_39 : decode prog_6_method_8_code 39 = .ok (.iaload, 1) := D_46 W_prog_6_method_8_code_32 7 rfl rfl
theorem d_6_8_40 : decode prog_6_method_8_code 40 = .ok (.aload_n 3, 1) := D_45 W_prog_6_method_8_code_32 8 rfl rfl
theorem d_6_8_41 : decode prog_6_method_8_code 41 = .ok (.getfield 102, 3) := D_180 W_prog_6_method_8_code_32 9 rfl rfl rfl
theorem d_6_8_44 : decode prog_6_method_8_code 44 = .ok (.iload_n 2, 1) := D_28 W_prog_6_method_8_code_32 12 rfl rfl
theorem d_6_8_45 : decode prog_6_method_8_code 45 = .ok (.iaload, 1) := D_46 W_prog_6_method_8_code_32 13 rfl rfl
theorem d_6_8_46 : decode prog_6_method_8_code 46 = .ok (.invokevirtual 105, 3) := D_182 W_prog_6_method_8_code_32 14 rfl rfl rfl
theorem d_6_8_49 : decode prog_6_method_8_code 49 = .ok (.ifCond .eq 7, 3) := D_153 W_prog_6_method_8_code_32 17 rfl rfl rfl
theorem d_6_8_52 : decode prog_6_method_8_code 52 = .ok (.iconst 1, 1) := D_4 W_prog_6_method_8_code_32 20 rfl rfl
theorem d_6_8_53 : decode prog_6_method_8_code 53 = .ok (.goto 4, 3) := D_167 W_prog_6_method_8_code_32 21 rfl rfl rfl
theorem d_6_8_57 : decode prog_6_method_8_code 57 = .ok (.ireturn, 1) := D_172 W_prog_6_method_8_code_32 25 rfl rfl
theorem d_6_8_56 : decode prog_6_method_8_code 56 = .ok (.iconst 0, 1) := D_3 W_prog_6_method_8_code_32 24 rfl rfl
theorem W_prog_6_method_20_code_0 : chW prog_6_method_20_code 0 [42, 180, 0, 11, 42, 180, 0, 19, 3, 50, 27, 46, 50, 77, 44, 180, 0, 99, 44, 180, 0, 188, 4, 100, 3, 184, 0, 181, 46, 178, 0, 206, 42, 180, 0, 209] := chW_of (by decide +kernel)
theorem d_6_20_0 : decode prog_6_method_20_code 0 = .ok (.aload_n 0, 1) := D_42 W_prog_6_method_20_code_0 0 rfl rfl
theorem d_6_20_1 : decode prog_6_method_20_code 1 = .ok (.getfield 11, 3) := D_180 W_prog_6_method_20_code_0 1 rfl rfl rfl
theorem d_6_20_4 : decode prog_6_method_20_code 4 = .ok (.aload_n 0, 1) := D_42 W_prog_6_method_20_code_0 4 rfl rfl
theorem d_6_20_5 : decode prog_6_method_20_code 5 = .ok (.getfield 19, 3) := D_180 W_prog_6_method_20_code_0 5 rfl rfl rfl
theorem d_6_20_8 : decode prog_6_method_20_code 8 = .ok (.iconst 0, 1) := D_3 W_prog_6_method_20_code_0 8 rfl rfl
theorem d_6_20_9 : decode prog_6_method_20_code 9 = .ok (.aaload, 1) := D_50 W_prog_6_method_20_code_0 9 rfl rfl
theorem d_6_20_10 : decode prog_6_method_20_code 10 = .ok (.iload_n 1, 1) := D_27 W_prog_6_method_20_code_0 10 rfl rfl
theorem d_6_20_11 : decode prog_6_method_20_code 11 = .ok (.iaload, 1) := D_46 W_prog_6_method_20_code_0 11 rfl rfl
theorem d_6_20_12 : decode prog_6_method_20_code 12 = .ok (.aaload, 1) := D_50 W_prog_6_method_20_code_0 12 rfl rfl
theorem d_6_20_13 : decode prog_6_method_20_code 13 = .ok (.astore_n 2, 1) := D_77 W_prog_6_method_20_code_0 13 rfl rfl
theorem d_6_20_14 : decode prog_6_method_20_code 14 = .ok (.aload_n 2, 1) := D_44 W_prog_6_method_20_code_0 14 rfl rfl
theorem d_6_20_15 : decode prog_6_method_20_code 15 = .ok (.getfield 99, 3) := D_180 W_prog_6_method_20_code_0 15 rfl rfl rfl
theorem d_6_20_18 : decode prog_6_method_20_code 18 = .ok (.aload_n 2, 1) := D_44 W_prog_6_method_20_code_0 18 rfl rfl
theorem d_6_20_19 : decode prog_6_method_20_code 19 = .ok (.getfield 188, 3) := D_180 W_prog_6_method_20_code_0 19 rfl rfl rfl
theorem d_6_20_22 : decode prog_6_method_20_code 22 = .ok (.iconst 1, 1) := D_4 W_prog_6_method_20_code_0 22 rfl rfl
theorem d_6_20_23 : decode prog_6_method_20_code 23 = .ok (.isub, 1) := D_100 W_prog_6_method_20_code_0 23 rfl rfl
theorem d_6_20_24 : decode prog_6_method_20_code 24 = .ok (.iconst 0, 1) := D_3 W_prog_6_method_20_code_0 24 rfl rfl
theorem d_6_20_25 : decode prog_6_method_20_code 25 = .ok (.invokestatic 181, 3) := D_184 W_prog_6_method_20_code_0 25 rfl rfl rfl
theorem d_6_20_28 : decode prog_6_method_20_code 28 = .ok (.iaload, 1) := D_46 W_prog_6_method_20_code_0 28 rfl rfl
theorem d_6_20_29 : decode prog_6_method_20_code 29 = .ok (.getstatic 206, 3) := D_178 W_prog_6_method_20_code_0 29 rfl rfl rfl
theorem W_prog_6_method_20_code_32 : chW prog_6_method_20_code 32 [42, 180, 0, 209, 46, 100, 172] := chW_of (by decide +kernel)
theorem d_6_20_32 : decode prog_6_method_20_code 32 = .ok (.aload_n 0, 1) := D_42 W_prog_6_method_20_code_32 0 rfl rfl
theorem d_6_20_33 : decode prog_6_method_20_code 33 = .ok (.getfield 209, 3) := D_180 W_prog_6_method_20_code_32 1 rfl rfl rfl
theorem d_6_20_36 : decode prog_6_method_20_code 36 = .ok (.iaload, 1) := D_46 W_prog_6_method_20_code_32 4 rfl rfl
theorem d_6_20_37 : decode prog_6_method_20_code 37 = .ok (.isub, 1) := D_100 W_prog_6_method_20_code_32 5 rfl rfl
theorem d_6_20_38 : decode prog_6_method_20_code 38 = .ok (.ireturn, 1) := D_172 W_prog_6_method_20_code_32 6 rfl rfl
theorem W_prog_6_method_19_code_0 : chW prog_6_method_19_code 0 [42, 180, 0, 11, 42, 180, 0, 19, 3, 50, 27, 46, 50, 180, 0, 99, 3, 46, 178, 0, 206, 42, 180, 0, 209, 46, 100, 172] := chW_of (by decide +kernel)
theorem d_6_19_0 : decode prog_6_method_19_code 0 = .ok (.aload_n 0, 1) := D_42 W_prog_6_method_19_code_0 0 rfl rfl
theorem d_6_19_1 : decode prog_6_method_19_code 1 = .ok (.getfield 11, 3) := D_180 W_prog_6_method_19_code_0 1 rfl rfl rfl
theorem d_6_19_4 : decode prog_6_method_19_code 4 = .ok (.aload_n 0, 1) := D_42 W_prog_6_method_19_code_0 4 rfl rfl
theorem d_6_19_5 : decode prog_6_method_19_code 5 = .ok (.getfield 19, 3) := D_180 W_prog_6_method_19_code_0 5 rfl rfl rfl
theorem d_6_19_8 : decode prog_6_method_19_code 8 = .ok (.iconst 0, 1) := D_3 W_prog_6_method_19_code_0 8 rfl rfl
theorem d_6_19_9 : decode prog_6_method_19_code 9 = .ok (.aaload, 1) := D_50 W_prog_6_method_19_code_0 9 rfl rfl
theorem d_6_19_10 : decode prog_6_method_19_code 10 = .ok (.iload_n 1, 1) := D_27 W_prog_6_method_19_code_0 10 rfl rfl
theorem d_6_19_11 : decode prog_6_method_19_code 11 = .ok (.iaload, 1) := D_46 W_prog_6_method_19_code_0 11 rfl rfl
theorem d_6_19_12 : decode prog_6_method_19_code 12 = .ok (.aaload, 1) := D_50 W_prog_6_method_19_code_0 12 rfl rfl
theorem d_6_19_13 : decode prog_6_method_19_code 13 = .ok (.getfield 99, 3) := D_180 W_prog_6_method_19_code_0 13 rfl rfl rfl
theorem d_6_19_16 : decode prog_6_method_19_code 16 = .ok (.iconst 0, 1) := D_3 W_prog_6_method_19_code_0 16 rfl rfl
theorem d_6_19_17 : decode prog_6_method_19_code 17 = .ok (.iaload, 1) := D_46 W_prog_6_method_19_code_0 17 rfl rfl
theorem d_6_19_18 : decode prog_6_method_19_code 18 = .ok (.getstatic 206, 3) := D_178 W_prog_6_method_19_code_0 18 rfl rfl rfl
theorem d_6_19_21 : decode prog_6_method_19_code 21 = .ok (.aload_n 0, 1) := D_42 W_prog_6_method_19_code_0 21 rfl rfl
theorem d_6_19_22 : decode prog_6_method_19_code 22 = .ok (.getfield 209, 3) := D_180 W_prog_6_method_19_code_0 22 rfl rfl rfl
theorem d_6_19_25 : decode prog_6_method_19_code 25 = .ok (.iaload, 1) := D_46 W_prog_6_method_19_code_0 25 rfl rfl
theorem d_6_19_26 : decode prog_6_method_19_code 26 = .ok (.isub, 1) := D_100 W_prog_6_method_19_code_0 26 rfl rfl
theorem d_6_19_27 : decode prog_6_method_19_code 27 = .ok (.ireturn, 1) := D_172 W_prog_6_method_19_code_0 27 rfl rfl
theorem W_prog_8_method_6_code_0 : chW prog_8_method_6_code 0 [20, 0, 72, 42, 180, 0, 30, 4, 184, 0, 74, 133, 109, 42, 180, 0, 27, 42, 180, 0, 30, 184, 0, 77, 133, 105, 173] := chW_of (by decide +kernel)
theorem d_8_6_0 : decode prog_8_method_6_code 0 = .ok (.ldc2_w 72, 3) := D_20 W_prog_8_method_6_code_0 0 rfl rfl rfl
theorem d_8_6_3 : decode prog_8_method_6_code 3 = .ok (.aload_n 0, 1) := D_42 W_prog_8_method_6_code_0 3 rfl rfl
theorem d_8_6_4 : decode prog_8_method_6_code 4 = .ok (.getfield 30, 3) := D_180 W_prog_8_method_6_code_0 4 rfl rfl rfl
theorem d_8_6_7 : decode prog_8_method_6_code 7 = .ok (.iconst 1, 1) := D_4 W_prog_8_method_6_code_0 7 rfl rfl
theorem d_8_6_8 : decode prog_8_method_6_code 8 = .ok (.invokestatic 74, 3) := D_184 W_prog_8_method_6_code_0 8 rfl rfl rfl
theorem d_8_6_11 : decode prog_8_method_6_code 11 = .ok (.i2l, 1) := D_133 W_prog_8_method_6_code_0 11 rfl rfl
theorem d_8_6_12 : decode prog_8_method_6_code 12 = .ok (.ldiv, 1) := D_109 W_prog_8_method_6_code_0 12 rfl rfl
theorem d_8_6_13 : decode prog_8_method_6_code 13 = .ok (.aload_n 0, 1) := D_42 W_prog_8_method_6_code_0 13 rfl rfl
theorem d_8_6_14 : decode prog_8_method_6_code 14 = .ok (.getfield 27, 3) := D_180 W_prog_8_method_6_code_0 14 rfl rfl rfl
theorem d_8_6_17 : decode prog_8_method_6_code 17 = .ok (.aload_n 0, 1) := D_42 W_prog_8_method_6_code_0 17 rfl rfl
theorem d_8_6_18 : decode prog_8_method_6_code 18 = .ok (.getfield 30, 3) := D_180 W_prog_8_method_6_code_0 18 rfl rfl rfl
theorem d_8_6_21 : decode prog_8_method_6_code 21 = .ok (.invokestatic 77, 3) := D_184 W_prog_8_method_6_code_0 21 rfl rfl rfl
theorem d_8_6_24 : decode prog_8_method_6_code 24 = .ok (.i2l, 1) := D_133 W_prog_8_method_6_code_0 24 rfl rfl
theorem d_8_6_25 : decode prog_8_method_6_code 25 = .ok (.lmul, 1) := D_105 W_prog_8_method_6_code_0 25 rfl rfl
theorem d_8_6_26 : decode prog_8_method_6_code 26 = .ok (.lreturn, 1) := D_173 W_prog_8_method_6_code_0 26 rfl rfl
theorem W_prog_6_method_22_code_0 : chW prog_6_method_22_code 0 [42, 27, 182, 0, 191, 154, 0, 19, 42, 180, 0, 19, 7, 50, 27, 46, 6, 161, 0, 7, 4, 167, 0, 4, 3, 172] := chW_of (by decide +kernel)
theorem d_6_22_0 : decode prog_6_method_22_code 0 = .ok (.aload_n 0, 1) := D_42 W_prog_6_method_22_code_0 0 rfl rfl
theorem d_6_22_1 : decode prog_6_method_22_code 1 = .ok (.iload_n 1, 1) := D_27 W_prog_6_method_22_code_0 1 rfl rfl
theorem d_6_22_2 : decode prog_6_method_22_code 2 = .ok (.invokevirtual 191, 3) := D_182 W_prog_6_method_22_code_0 2 rfl rfl rfl
theorem d_6_22_5 : decode prog_6_method_22_code 5 = .ok (.ifCond .ne 19, 3) := D_154 W_prog_6_method_22_code_0 5 rfl rfl rfl
theorem d_6_22_8 : decode prog_6_method_22_code 8 = .ok (.aload_n 0, 1) := D_42 W_prog_6_method_22_code_0 8 rfl rfl
theorem d_6_22_9 : decode prog_6_method_22_code 9 = .ok (.getfield 19, 3) := D_180 W_prog_6_method_22_code_0 9 rfl rfl rfl
theorem d_6_22_12 : decode prog_6_method_22_code 12 = .ok (.iconst 4, 1) := D_7 W_prog_6_method_22_code_0 12 rfl rfl
theorem d_6_22_13 : decode prog_6_method_22_code 13 = .ok (.aaload, 1) := D_50 W_prog_6_method_22_code_0 13 rfl rfl
theorem d_6_22_14 : decode prog_6_method_22_code 14 = .ok (.iload_n 1, 1) := D_27 W_prog_6_method_22_code_0 14 rfl rfl
theorem d_6_22_15 : decode prog_6_method_22_code 15 = .ok (.iaload, 1) := D_46 W_prog_6_method_22_code_0 15 rfl rfl
theorem d_6_22_16 : decode prog_6_method_22_code 16 = .ok (.iconst 3, 1) := D_6 W_prog_6_method_22_code_0 16 rfl rfl
theorem d_6_22_17 : decode prog_6_method_22_code 17 = .ok (.if_icmp .lt 7, 3) := D_161 W_prog_6_method_22_code_0 17 rfl rfl rfl
theorem d_6_22_20 : decode prog_6_method_22_code 20 = .ok (.iconst 1, 1) := D_4 W_prog_6_method_22_code_0 20 rfl rfl
theorem d_6_22_21 : decode prog_6_method_22_code 21 = .ok (.goto 4, 3) := D_167 W_prog_6_method_22_code_0 21 rfl rfl rfl
theorem d_6_22_25 : decode prog_6_method_22_code 25 = .ok (.ireturn, 1) := D_172 W_prog_6_method_22_code_0 25 rfl rfl
theorem d_6_22_24 : decode prog_6_method_22_code 24 = .ok (.iconst 0, 1) := D_3 W_prog_6_method_22_code_0 24 rfl rfl
theorem W_prog_6_method_23_code_0 : chW prog_6_method_23_code 0 [28, 42, 180, 0, 35, 162, 0, 54, 42, 28, 182, 0, 218, 153, 0, 46, 42, 180, 0, 19, 4, 50, 27, 46, 42, 180, 0, 19, 4, 50, 28, 46, 160, 0, 27, 42] := chW_of (by decide +kernel)
theorem d_6_23_0 : decode prog_6_method_23_code 0 = .ok (.iload_n 2, 1) := D_28 W_prog_6_method_23_code_0 0 rfl rfl
theorem d_6_23_1 : decode prog_6_method_23_code 1 = .ok (.aload_n 0, 1) := D_42 W_prog_6_method_23_code_0 1 rfl rfl
theorem d_6_23_2 : decode prog_6_method_23_code 2 = .ok (.getfield 35, 3) := D_180 W_prog_6_method_23_code_0 2 rfl rfl rfl
theorem d_6_23_5 : decode prog_6_method_23_code 5 = .ok (.if_icmp .ge 54, 3) := D_162 W_prog_6_method_23_code_0 5 rfl rfl rfl
theorem d_6_23_8 : decode prog_6_method_23_code 8 = .ok (.aload_n 0, 1) := D_42 W_prog_6_method_23_code_0 8 rfl rfl
theorem d_6_23_9 : decode prog_6_method_23_code 9 = .ok (.iload_n 2, 1) := D_28 W_prog_6_method_23_code_0 9 rfl rfl
theorem d_6_23_10 : decode prog_6_method_23_code 10 = .ok (.invokevirtual 218, 3) := D_182 W_prog_6_method_23_code_0 10 rfl rfl rfl
theorem d_6_23_13 : decode prog_6_method_23_code 13 = .ok (.ifCond .eq 46, 3) := D_153 W_prog_6_method_23_code_0 13 rfl rfl rfl
theorem d_6_23_16 : decode prog_6_method_23_code 16 = .ok (.aload_n 0, 1) := D_42 W_prog_6_method_23_code_0 16 rfl rfl
theorem d_6_23_17 : decode prog_6_method_23_code 17 = .ok (.getfield 19, 3) := D_180 W_prog_6_method_23_code_0 17 rfl rfl rfl
theorem d_6_23_20 : decode prog_6_method_23_code 20 = .ok (.iconst 1, 1) := D_4 W_prog_6_method_23_code_0 20 rfl rfl
theorem d_6_23_21 : decode prog_6_method_23_code 21 = .ok (.aaload, 1) := D_50 W_prog_6_method_23_code_0 21 rfl rfl
theorem d_6_23_22 : decode prog_6_method_23_code 22 = .ok (.iload_n 1, 1) := D_27 W_prog_6_method_23_code_0 22 rfl rfl
theorem d_6_23_23 : decode prog_6_method_23_code 23 = .ok (.iaload, 1) := D_46 W_prog_6_method_23_code_0 23 rfl rfl
theorem d_6_23_24 : decode prog_6_method_23_code 24 = .ok (.aload_n 0, 1) := D_42 W_prog_6_method_23_code_0 24 rfl rfl
theorem d_6_23_25 : decode prog_6_method_23_code 25 = .ok (.getfield 19, 3) := D_180 W_prog_6_method_23_code_0 25 rfl rfl rfl
theorem d_6_23_28 : decode prog_6_method_23_code 28 = .ok (.iconst 1, 1) := D_4 W_prog_6_method_23_code_0 28 rfl rfl
theorem d_6_23_29 : decode prog_6_method_23_code 29 = .ok (.aaload, 1) := D_50 W_prog_6_method_23_code_0 29 rfl rfl
theorem d_6_23_30 : decode prog_6_method_23_code 30 = .ok (.iload_n 2, 1) := D_28 W_prog_6_method_23_code_0 30 rfl rfl
theorem d_6_23_31 : decode prog_6_method_23_code 31 = .ok (.iaload, 1) := D_46 W_prog_6_method_23_code_0 31 rfl rfl
theorem W_prog_6_method_23_code_32 : chW prog_6_method_23_code 32 [160, 0, 27, 42, 180, 0, 22, 27, 47, 33, 109, 42, 180, 0, 22, 28, 47, 33, 109, 148, 154, 0, 7, 4, 167, 0, 4, 3, 172] := chW_of (by decide +kernel)
theorem d_6_23_32 : decode prog_6_method_23_code 32 = .ok (.if_icmp .ne 27, 3) := D_160 W_prog_6_method_23_code_32 0 rfl rfl rfl
theorem d_6_23_35 : decode prog_6_method_23_code 35 = .ok (.aload_n 0, 1) := D_42 W_prog_6_method_23_code_32 3 rfl rfl
theorem d_6_23_36 : decode prog_6_method_23_code 36 = .ok (.getfield 22, 3) := D_180 W_prog_6_method_23_code_32 4 rfl rfl rfl
theorem d_6_23_39 : decode prog_6_method_23_code 39 = .ok (.iload_n 1, 1) := D_27 W_prog_6_method_23_code_32 7 rfl rfl
theorem d_6_23_40 : decode prog_6_method_23_code 40 = .ok (.laload, 1) := D_47 W_prog_6_method_23_code_32 8 rfl rfl
theorem d_6_23_41 : decode prog_6_method_23_code 41 = .ok (.lload_n 3, 1) := D_33 W_prog_6_method_23_code_32 9 rfl rfl
theorem d_6_23_42 : decode prog_6_method_23_code 42 = .ok (.ldiv, 1) := D_109 W_prog_6_method_23_code_32 10 rfl rfl
theorem d_6_23_43 : decode prog_6_method_23_code 43 = .ok (.aload_n 0, 1) := D_42 W_prog_6_method_23_code_32 11 rfl rfl
theorem d_6_23_44 : decode prog_6_method_23_code 44 = .ok (.getfield 22, 3) := D_180 W_prog_6_method_23_code_32 12 rfl rfl rfl
theorem d_6_23_47 : decode prog_6_method_23_code 47 = .ok (.iload_n 2, 1) := D_28 W_prog_6_method_23_code_32 15 rfl rfl
theorem d_6_23_48 : decode prog_6_method_23_code 48 = .ok (.laload, 1) := D_47 W_prog_6_method_23_code_32 16 rfl rfl
theorem d_6_23_49 : decode prog_6_method_23_code 49 = .ok (.lload_n 3, 1) := D_33 W_prog_6_method_23_code_32 17 rfl rfl
theorem d_6_23_50 : decode prog_6_method_23_code 50 = .ok (.ldiv, 1) := D_109 W_prog_6_method_23_code_32 18 rfl rfl
theorem d_6_23_51 : decode prog_6_method_23_code 51 = .ok (.lcmp, 1) := D_148 W_prog_6_method_23_code_32 19 rfl rfl
theorem d_6_23_52 : decode prog_6_method_23_code 52 = .ok (.ifCond .ne 7, 3) := D_154 W_prog_6_method_23_code_32 20 rfl rfl rfl
theorem d_6_23_55 : decode prog_6_method_23_code 55 = .ok (.iconst 1, 1) := D_4 W_prog_6_method_23_code_32 23 rfl rfl
theorem d_6_23_56 : decode prog_6_method_23_code 56 = .ok (.goto 4, 3) := D_167 W_prog_6_method_23_code_32 24 rfl rfl rfl
theorem d_6_23_60 : decode prog_6_method_23_code 60 = .ok (.ireturn, 1) := D_172 W_prog_6_method_23_code_32 28 rfl rfl
theorem d_6_23_59 : decode prog_6_method_23_code 59 = .ok (.iconst 0, 1) := D_3 W_prog_6_method_23_code_32 27 rfl rfl
theorem W_prog_6_method_25_code_0 : chW prog_6_method_25_code 0 [3, 60, 3, 61, 28, 17, 3, 32, 162, 0, 203, 27, 42, 180, 0, 35, 162, 0, 195, 4, 62, 42, 180, 0, 19, 16, 9, 50, 27, 46, 2, 159, 0, 42, 27, 29] := chW_of (by decide +kernel)
theorem d_6_25_0 : decode prog_6_method_25_code 0 = .ok (.iconst 0, 1) := D_3 W_prog_6_method_25_code_0 0 rfl rfl
theorem d_6_25_1 : decode prog_6_method_25_code 1 = .ok (.istore_n 1, 1) := D_60 W_prog_6_method_25_code_0 1 rfl rfl
theorem d_6_25_2 : decode prog_6_method_25_code 2 = .ok (.iconst 0, 1) := D_3 W_prog_6_method_25_code_0 2 rfl rfl
theorem d_6_25_3 : decode prog_6_method_25_code 3 = .ok (.istore_n 2, 1) := D_61 W_prog_6_method_25_code_0 3 rfl rfl
theorem d_6_25_4 : decode prog_6_method_25_code 4 = .ok (.iload_n 2, 1) := D_28 W_prog_6_method_25_code_0 4 rfl rfl
theorem d_6_25_5 : decode prog_6_method_25_code 5 = .ok (.sipush 800, 3) := D_17 W_prog_6_method_25_code_0 5 rfl rfl rfl
theorem d_6_25_8 : decode prog_6_method_25_code 8 = .ok (.if_icmp .ge 203, 3) := D_162 W_prog_6_method_25_code_0 8 rfl rfl rfl
theorem d_6_25_11 : decode prog_6_method_25_code 11 = .ok (.iload_n 1, 1) := D_27 W_prog_6_method_25_code_0 11 rfl rfl
theorem d_6_25_12 : decode prog_6_method_25_code 12 = .ok (.aload_n 0, 1) := D_42 W_prog_6_method_25_code_0 12 rfl rfl
theorem d_6_25_13 : decode prog_6_method_25_code 13 = .ok (.getfield 35, 3) := D_180 W_prog_6_method_25_code_0 13 rfl rfl rfl
theorem d_6_25_16 : decode prog_6_method_25_code 16 = .ok (.if_icmp .ge 195, 3) := D_162 W_prog_6_method_25_code_0 16 rfl rfl rfl
theorem d_6_25_19 : decode prog_6_method_25_code 19 = .ok (.iconst 1, 1) := D_4 W_prog_6_method_25_code_0 19 rfl rfl
theorem d_6_25_20 : decode prog_6_method_25_code 20 = .ok (.istore_n 3, 1) := D_62 W_prog_6_method_25_code_0 20 rfl rfl
theorem d_6_25_21 : decode prog_6_method_25_code 21 = .ok (.aload_n 0, 1) := D_42 W_prog_6_method_25_code_0 21 rfl rfl
theorem d_6_25_22 : decode prog_6_method_25_code 22 = .ok (.getfield 19, 3) := D_180 W_prog_6_method_25_code_0 22 rfl rfl rfl
theorem d_6_25_25 : decode prog_6_method_25_code 25 = .ok (.bipush 9, 2) := D_16 W_prog_6_method_25_code_0 25 rfl rfl rfl
theorem d_6_25_27 : decode prog_6_method_25_code 27 = .ok (.aaload, 1) := D_50 W_prog_6_method_25_code_0 27 rfl rfl
theorem d_6_25_28 : decode prog_6_method_25_code 28 = .ok (.iload_n 1, 1) := D_27 W_prog_6_method_25_code_0 28 rfl rfl
theorem d_6_25_29 : decode prog_6_method_25_code 29 = .ok (.iaload, 1) := D_46 W_prog_6_method_25_code_0 29 rfl rfl
theorem d_6_25_30 : decode prog_6_method_25_code 30 = .ok (.iconst (-1), 1) := D_2 W_prog_6_method_25_code_0 30 rfl rfl
theorem d_6_25_31 : decode prog_6_method_25_code 31 = .ok (.if_icmp .eq 42, 3) := D_159 W_prog_6_method_25_code_0 31 rfl rfl rfl
theorem W_prog_6_method_25_code_32 : chW prog_6_method_25_code 32 [0, 42, 27, 29, 96, 42, 180, 0, 35, 162, 0, 32, 42, 180, 0, 19, 16, 9, 50, 27, 29, 96, 46, 42, 180, 0, 19, 16, 9, 50, 27, 46, 160, 0, 9, 132] := chW_of (by decide +kernel)
theorem d_6_25_34 : decode prog_6_method_25_code 34 = .ok (.iload_n 1, 1) := D_27 W_prog_6_method_25_code_32 2 rfl rfl
theorem d_6_25_35 : decode prog_6_method_25_code 35 = .ok (.iload_n 3, 1) := D_29 W_prog_6_method_25_code_32 3 rfl rfl
theorem d_6_25_36 : decode prog_6_method_25_code 36 = .ok (.iadd, 1) := D_96 W_prog_6_method_25_code_32 4 rfl rfl
theorem d_6_25_37 : decode prog_6_method_25_code 37 = .ok (.aload_n 0, 1) := D_42 W_prog_6_method_25_code_32 5 rfl rfl
theorem d_6_25_38 : decode prog_6_method_25_code 38 = .ok (.getfield 35, 3) := D_180 W_prog_6_method_25_code_32 6 rfl rfl rfl
theorem d_6_25_41 : decode prog_6_method_25_code 41 = .ok (.if_icmp .ge 32, 3) := D_162 W_prog_6_method_25_code_32 9 rfl rfl rfl
theorem d_6_25_44 : decode prog_6_method_25_code 44 = .ok (.aload_n 0, 1) := D_42 W_prog_6_method_25_code_32 12 rfl rfl
theorem d_6_25_45 : decode prog_6_method_25_code 45 = .ok (.getfield 19, 3) := D_180 W_prog_6_method_25_code_32 13 rfl rfl rfl
theorem d_6_25_48 : decode prog_6_method_25_code 48 = .ok (.bipush 9, 2) := D_16 W_prog_6_method_25_code_32 16 rfl rfl rfl
theorem d_6_25_50 : decode prog_6_method_25_code 50 = .ok (.aaload, 1) := D_50 W_prog_6_method_25_code_32 18 rfl rfl
theorem d_6_25_51 : decode prog_6_method_25_code 51 = .ok (.iload_n 1, 1) := D_27 W_prog_6_method_25_code_32 19 rfl rfl
theorem d_6_25_52 : decode prog_6_method_25_code 52 = .ok (.iload_n 3, 1) := D_29 W_prog_6_method_25_code_32 20 rfl rfl
theorem d_6_25_53 : decode prog_6_method_25_code 53 = .ok (.iadd, 1) := D_96 W_prog_6_method_25_code_32 21 rfl rfl
theorem d_6_25_54 : decode prog_6_method_25_code 54 = .ok (.iaload, 1) := D_46 W_prog_6_method_25_code_32 22 rfl rfl
theorem d_6_25_55 : decode prog_6_method_25_code 55 = .ok (.aload_n 0, 1) := D_42 W_prog_6_method_25_code_32 23 rfl rfl
theorem d_6_25_56 : decode prog_6_method_25_code 56 = .ok (.getfield 19, 3) := D_180 W_prog_6_method_25_code_32 24 rfl rfl rfl
theorem d_6_25_59 : decode prog_6_method_25_code 59 = .ok (.bipush 9, 2) := D_16 W_prog_6_method_25_code_32 27 rfl rfl rfl
theorem d_6_25_61 : decode prog_6_method_25_code 61 = .ok (.aaload, 1) := D_50 W_prog_6_method_25_code_32 29 rfl rfl
theorem d_6_25_62 : decode prog_6_method_25_code 62 = .ok (.iload_n 1, 1) := D_27 W_prog_6_method_25_code_32 30 rfl rfl
theorem d_6_25_63 : decode prog_6_method_25_code 63 = .ok (.iaload, 1) := D_46 W_prog_6_method_25_code_32 31 rfl rfl
theorem W_prog_6_method_25_code_64 : chW prog_6_method_25_code 64 [160, 0, 9, 132, 3, 1, 167, 255, 207, 3, 54, 4, 27, 54, 5, 21, 5, 27, 29, 96, 162, 0, 43, 21, 4, 42, 21, 5, 182, 0, 191, 153, 0, 7, 3, 167] := chW_of (by decide +kernel)
theorem d_6_25_64 : decode prog_6_method_25_code 64 = .ok (.if_icmp .ne 9, 3) := D_160 W_prog_6_method_25_code_64 0 rfl rfl rfl
theorem d_6_25_67 : decode prog_6_method_25_code 67 = .ok (.iinc 3 1, 3) := D_132 W_prog_6_method_25_code_64 3 rfl rfl rfl
theorem d_6_25_70 : decode prog_6_method_25_code 70 = .ok (.goto (-49), 3) := D_167 W_prog_6_method_25_code_64 6 rfl rfl rfl
theorem d_6_25_73 : decode prog_6_method_25_code 73 = .ok (.iconst 0, 1) := D_3 W_prog_6_method_25_code_64 9 rfl rfl
theorem d_6_25_74 : decode prog_6_method_25_code 74 = .ok (.istore 4, 2) := D_54 W_prog_6_method_25_code_64 10 rfl rfl
theorem d_6_25_76 : decode prog_6_method_25_code 76 = .ok (.iload_n 1, 1) := D_27 W_prog_6_method_25_code_64 12 rfl rfl
theorem d_6_25_77 : decode prog_6_method_25_code 77 = .ok (.istore 5, 2) := D_54 W_prog_6_method_25_code_64 13 rfl rfl
theorem d_6_25_79 : decode prog_6_method_25_code 79 = .ok (.iload 5, 2) := D_21 W_prog_6_method_25_code_64 15 rfl rfl
theorem d_6_25_81 : decode prog_6_method_25_code 81 = .ok (.iload_n 1, 1) := D_27 W_prog_6_method_25_code_64 17 rfl rfl
theorem d_6_25_82 : decode prog_6_method_25_code 82 = .ok (.iload_n 3, 1) := D_29 W_prog_6_method_25_code_64 18 rfl rfl
theorem d_6_25_83 : decode prog_6_method_25_code 83 = .ok (.iadd, 1) := D_96 W_prog_6_method_25_code_64 19 rfl rfl
theorem d_6_25_84 : decode prog_6_method_25_code 84 = .ok (.if_icmp .ge 43, 3) := D_162 W_prog_6_method_25_code_64 20 rfl rfl rfl
theorem W_prog_6_method_25_code_96 : chW prog_6_method_25_code 96 [0, 7, 3, 167, 0, 19, 42, 21, 5, 182, 0, 215, 42, 21, 5, 182, 0, 212, 96, 16, 8, 100, 96, 54, 4, 132, 5, 1, 167, 255, 211, 27, 54, 5, 21, 5] := chW_of (by decide +kernel)
theorem d_6_25_127 : decode prog_6_method_25_code 127 = .ok (.iload_n 1, 1) := D_27 W_prog_6_method_25_code_96 31 rfl rfl
theorem W_prog_6_method_25_code_128 : chW prog_6_method_25_code 128 [54, 5, 21, 5, 27, 29, 96, 162, 0, 66, 42, 21, 5, 182, 0, 191, 154, 0, 15, 42, 180, 0, 19, 7, 50, 21, 5, 46, 154, 0, 7, 4, 167, 0, 4, 3] := chW_of (by decide +kernel)
theorem d_6_25_128 : decode prog_6_method_25_code 128 = .ok (.istore 5, 2) := D_54 W_prog_6_method_25_code_128 0 rfl rfl
theorem d_6_25_87 : decode prog_6_method_25_code 87 = .ok (.iload 4, 2) := D_21 W_prog_6_method_25_code_64 23 rfl rfl
theorem d_6_25_89 : decode prog_6_method_25_code 89 = .ok (.aload_n 0, 1) := D_42 W_prog_6_method_25_code_64 25 rfl rfl
theorem d_6_25_90 : decode prog_6_method_25_code 90 = .ok (.iload 5, 2) := D_21 W_prog_6_method_25_code_64 26 rfl rfl
theorem d_6_25_92 : decode prog_6_method_25_code 92 = .ok (.invokevirtual 191, 3) := D_182 W_prog_6_method_25_code_64 28 rfl rfl rfl
theorem d_6_25_95 : decode prog_6_method_25_code 95 = .ok (.ifCond .eq 7, 3) := D_153 W_prog_6_method_25_code_64 31 rfl rfl rfl
theorem d_6_25_102 : decode prog_6_method_25_code 102 = .ok (.aload_n 0, 1) := D_42 W_prog_6_method_25_code_96 6 rfl rfl
theorem d_6_25_103 : decode prog_6_method_25_code 103 = .ok (.iload 5, 2) := D_21 W_prog_6_method_25_code_96 7 rfl rfl
theorem d_6_25_105 : decode prog_6_method_25_code 105 = .ok (.invokevirtual 215, 3) := D_182 W_prog_6_method_25_code_96 9 rfl rfl rfl
theorem d_6_25_108 : decode prog_6_method_25_code 108 = .ok (.aload_n 0, 1) := D_42 W_prog_6_method_25_code_96 12 rfl rfl
theorem d_6_25_109 : decode prog_6_method_25_code 109 = .ok (.iload 5, 2) := D_21 W_prog_6_method_25_code_96 13 rfl rfl
theorem d_6_25_111 : decode prog_6_method_25_code 111 = .ok (.invokevirtual 212, 3) := D_182 W_prog_6_method_25_code_96 15 rfl rfl rfl
theorem d_6_25_114 : decode prog_6_method_25_code 114 = .ok (.iadd, 1) := D_96 W_prog_6_method_25_code_96 18 rfl rfl
theorem d_6_25_115 : decode prog_6_method_25_code 115 = .ok (.bipush 8, 2) := D_16 W_prog_6_method_25_code_96 19 rfl rfl rfl
theorem d_6_25_117 : decode prog_6_method_25_code 117 = .ok (.isub, 1) := D_100 W_prog_6_method_25_code_96 21 rfl rfl
theorem d_6_25_98 : decode prog_6_method_25_code 98 = .ok (.iconst 0, 1) := D_3 W_prog_6_method_25_code_96 2 rfl rfl
theorem d_6_25_99 : decode prog_6_method_25_code 99 = .ok (.goto 19, 3) := D_167 W_prog_6_method_25_code_96 3 rfl rfl rfl
theorem d_6_25_118 : decode prog_6_method_25_code 118 = .ok (.iadd, 1) := D_96 W_prog_6_method_25_code_96 22 rfl rfl
theorem d_6_25_119 : decode prog_6_method_25_code 119 = .ok (.istore 4, 2) := D_54 W_prog_6_method_25_code_96 23 rfl rfl
theorem d_6_25_121 : decode prog_6_method_25_code 121 = .ok (.iinc 5 1, 3) := D_132 W_prog_6_method_25_code_96 25 rfl rfl rfl
theorem d_6_25_124 : decode prog_6_method_25_code 124 = .ok (.goto (-45), 3) := D_167 W_prog_6_method_25_code_96 28 rfl rfl rfl
theorem d_6_25_130 : decode prog_6_method_25_code 130 = .ok (.iload 5, 2) := D_21 W_prog_6_method_25_code_128 2 rfl rfl
theorem d_6_25_132 : decode prog_6_method_25_code 132 = .ok (.iload_n 1, 1) := D_27 W_prog_6_method_25_code_128 4 rfl rfl
theorem d_6_25_133 : decode prog_6_method_25_code 133 = .ok (.iload_n 3, 1) := D_29 W_prog_6_method_25_code_128 5 rfl rfl
theorem d_6_25_134 : decode prog_6_method_25_code 134 = .ok (.iadd, 1) := D_96 W_prog_6_method_25_code_128 6 rfl rfl
theorem d_6_25_135 : decode prog_6_method_25_code 135 = .ok (.if_icmp .ge 66, 3) := D_162 W_prog_6_method_25_code_128 7 rfl rfl rfl
theorem W_prog_6_method_25_code_192 : chW prog_6_method_25_code 192 [4, 5, 79, 132, 5, 1, 167, 255, 188, 27, 29, 96, 60, 132, 2, 1, 167, 255, 52, 177] := chW_of (by decide +kernel)
theorem d_6_25_201 : decode prog_6_method_25_code 201 = .ok (.iload_n 1, 1) := D_27 W_prog_6_method_25_code_192 9 rfl rfl
theorem d_6_25_202 : decode prog_6_method_25_code 202 = .ok (.iload_n 3, 1) := D_29 W_prog_6_method_25_code_192 10 rfl rfl
theorem d_6_25_203 : decode prog_6_method_25_code 203 = .ok (.iadd, 1) := D_96 W_prog_6_method_25_code_192 11 rfl rfl
theorem d_6_25_204 : decode prog_6_method_25_code 204 = .ok (.istore_n 1, 1) := D_60 W_prog_6_method_25_code_192 12 rfl rfl
theorem d_6_25_205 : decode prog_6_method_25_code 205 = .ok (.iinc 2 1, 3) := D_132 W_prog_6_method_25_code_192 13 rfl rfl rfl
theorem d_6_25_208 : decode prog_6_method_25_code 208 = .ok (.goto (-204), 3) := D_167 W_prog_6_method_25_code_192 16 rfl rfl rfl
theorem d_6_25_138 : decode prog_6_method_25_code 138 = .ok (.aload_n 0, 1) := D_42 W_prog_6_method_25_code_128 10 rfl rfl
theorem d_6_25_139 : decode prog_6_method_25_code 139 = .ok (.iload 5, 2) := D_21 W_prog_6_method_25_code_128 11 rfl rfl
theorem d_6_25_141 : decode prog_6_method_25_code 141 = .ok (.invokevirtual 191, 3) := D_182 W_prog_6_method_25_code_128 13 rfl rfl rfl
theorem d_6_25_144 : decode prog_6_method_25_code 144 = .ok (.ifCond .ne 15, 3) := D_154 W_prog_6_method_25_code_128 16 rfl rfl rfl
theorem d_6_25_147 : decode prog_6_method_25_code 147 = .ok (.aload_n 0, 1) := D_42 W_prog_6_method_25_code_128 19 rfl rfl
theorem d_6_25_148 : decode prog_6_method_25_code 148 = .ok (.getfield 19, 3) := D_180 W_prog_6_method_25_code_128 20 rfl rfl rfl
theorem d_6_25_151 : decode prog_6_method_25_code 151 = .ok (.iconst 4, 1) := D_7 W_prog_6_method_25_code_128 23 rfl rfl
theorem d_6_25_152 : decode prog_6_method_25_code 152 = .ok (.aaload, 1) := D_50 W_prog_6_method_25_code_128 24 rfl rfl
theorem d_6_25_153 : decode prog_6_method_25_code 153 = .ok (.iload 5, 2) := D_21 W_prog_6_method_25_code_128 25 rfl rfl
theorem d_6_25_155 : decode prog_6_method_25_code 155 = .ok (.iaload, 1) := D_46 W_prog_6_method_25_code_128 27 rfl rfl
theorem d_6_25_156 : decode prog_6_method_25_code 156 = .ok (.ifCond .ne 7, 3) := D_154 W_prog_6_method_25_code_128 28 rfl rfl rfl
theorem W_prog_6_method_25_code_160 : chW prog_6_method_25_code 160 [167, 0, 4, 3, 54, 6, 42, 180, 0, 19, 16, 11, 50, 21, 5, 21, 6, 153, 0, 7, 3, 167, 0, 13, 21, 4, 156, 0, 7, 4, 167, 0, 4, 5, 79, 132] := chW_of (by decide +kernel)
theorem d_6_25_163 : decode prog_6_method_25_code 163 = .ok (.iconst 0, 1) := D_3 W_prog_6_method_25_code_160 3 rfl rfl
theorem d_6_25_159 : decode prog_6_method_25_code 159 = .ok (.iconst 1, 1) := D_4 W_prog_6_method_25_code_128 31 rfl rfl
theorem d_6_25_160 : decode prog_6_method_25_code 160 = .ok (.goto 4, 3) := D_167 W_prog_6_method_25_code_160 0 rfl rfl rfl
theorem d_6_25_164 : decode prog_6_method_25_code 164 = .ok (.istore 6, 2) := D_54 W_prog_6_method_25_code_160 4 rfl rfl
theorem d_6_25_166 : decode prog_6_method_25_code 166 = .ok (.aload_n 0, 1) := D_42 W_prog_6_method_25_code_160 6 rfl rfl
theorem d_6_25_167 : decode prog_6_method_25_code 167 = .ok (.getfield 19, 3) := D_180 W_prog_6_method_25_code_160 7 rfl rfl rfl
theorem d_6_25_170 : decode prog_6_method_25_code 170 = .ok (.bipush 11, 2) := D_16 W_prog_6_method_25_code_160 10 rfl rfl rfl
theorem d_6_25_172 : decode prog_6_method_25_code 172 = .ok (.aaload, 1) := D_50 W_prog_6_method_25_code_160 12 rfl rfl
theorem d_6_25_173 : decode prog_6_method_25_code 173 = .ok (.iload 5, 2) := D_21 W_prog_6_method_25_code_160 13 rfl rfl
theorem d_6_25_175 : decode prog_6_method_25_code 175 = .ok (.iload 6, 2) := D_21 W_prog_6_method_25_code_160 15 rfl rfl
theorem d_6_25_177 : decode prog_6_method_25_code 177 = .ok (.ifCond .eq 7, 3) := D_153 W_prog_6_method_25_code_160 17 rfl rfl rfl
theorem d_6_25_184 : decode prog_6_method_25_code 184 = .ok (.iload 4, 2) := D_21 W_prog_6_method_25_code_160 24 rfl rfl
theorem d_6_25_186 : decode prog_6_method_25_code 186 = .ok (.ifCond .ge 7, 3) := D_156 W_prog_6_method_25_code_160 26 rfl rfl rfl
theorem d_6_25_193 : decode prog_6_method_25_code 193 = .ok (.iconst 2, 1) := D_5 W_prog_6_method_25_code_192 1 rfl rfl
theorem d_6_25_189 : decode prog_6_method_25_code 189 = .ok (.iconst 1, 1) := D_4 W_prog_6_method_25_code_160 29 rfl rfl
theorem d_6_25_190 : decode prog_6_method_25_code 190 = .ok (.goto 4, 3) := D_167 W_prog_6_method_25_code_160 30 rfl rfl rfl
theorem d_6_25_180 : decode prog_6_method_25_code 180 = .ok (.iconst 0, 1) := D_3 W_prog_6_method_25_code_160 20 rfl rfl
theorem d_6_25_181 : decode prog_6_method_25_code 181 = .ok (.goto 13, 3) := D_167 W_prog_6_method_25_code_160 21 rfl rfl rfl
theorem d_6_25_194 : decode prog_6_method_25_code 194 = .ok (.iastore, 1) := D_79 W_prog_6_method_25_code_192 2 rfl rfl
theorem d_6_25_195 : decode prog_6_method_25_code 195 = .ok (.iinc 5 1, 3) := D_132 W_prog_6_method_25_code_192 3 rfl rfl rfl
theorem d_6_25_198 : decode prog_6_method_25_code 198 = .ok (.goto (-68), 3) := D_167 W_prog_6_method_25_code_192 6 rfl rfl rfl
theorem d_6_25_211 : decode prog_6_method_25_code 211 = .ok (.return_, 1) := D_177 W_prog_6_method_25_code_192 19 rfl rfl
set_option maxRecDepth 20000 in
theorem inW_1 : ∀ w ∈ u_ws RX1 TX1 14, w ∈ wAll := by
  show ∀ w ∈ [(Jvm.Cond.lays "StaveHouse$Event" "StaveHouse$Event" "place" "J"), (Jvm.Cond.lays "StaveHouse$Event" "StaveHouse$Event" "length" "J"), (Jvm.Cond.lays "StaveHouse$Event" "StaveHouse$Event" "value" "I"), (Jvm.Cond.lays "StaveHouse$Event" "StaveHouse$Event" "tupletFirst" "I"), (Jvm.Cond.lays "StaveHouse$Event" "StaveHouse$Event" "tupletSecond" "I"), (Jvm.Cond.lays "StaveHouse$Event" "StaveHouse$Event" "bracket" "I"), (Jvm.Cond.lays "StaveHouse$Event" "StaveHouse$Event" "bracketPlace" "I"), (Jvm.Cond.lays "StaveHouse$Event" "StaveHouse$Event" "marks" "I"), (Jvm.Cond.lays "StaveHouse$Event" "StaveHouse$Event" "loud" "I"), (Jvm.Cond.lays "StaveHouse$Event" "StaveHouse$Event" "token" "I"), (Jvm.Cond.lays "StaveHouse$Event" "StaveHouse$Event" "count" "I"), (Jvm.Cond.lays "StaveHouse$Event" "StaveHouse$Event" "slurred" "Z"), (Jvm.Cond.laysFinal "StaveHouse$Event" "StaveHouse$Event" "steps" "[I"), (Jvm.Cond.laysFinal "StaveHouse$Event" "StaveHouse$Event" "alterations" "[I")], w ∈ wAll
  exact List.forall_mem_cons.mpr ⟨k_2_69, List.forall_mem_cons.mpr ⟨k_2_71, List.forall_mem_cons.mpr ⟨k_2_73, List.forall_mem_cons.mpr ⟨k_2_75, List.forall_mem_cons.mpr ⟨k_2_77, List.forall_mem_cons.mpr ⟨k_2_79, List.forall_mem_cons.mpr ⟨k_2_81, List.forall_mem_cons.mpr ⟨k_2_83, List.forall_mem_cons.mpr ⟨k_2_85, List.forall_mem_cons.mpr ⟨k_2_87, List.forall_mem_cons.mpr ⟨k_2_89, List.forall_mem_cons.mpr ⟨k_2_91, List.forall_mem_cons.mpr ⟨k_2_93, List.forall_mem_cons.mpr ⟨k_2_95, fun _ h => absurd h List.not_mem_nil⟩⟩⟩⟩⟩⟩⟩⟩⟩⟩⟩⟩⟩⟩
set_option maxRecDepth 20000 in
theorem inW_4 : ∀ w ∈ u_ws RX4 TX4 13, w ∈ wAll := by
  show ∀ w ∈ [(Jvm.Cond.lays "StaveHouse$Part" "StaveHouse$Part" "word" "J"), (Jvm.Cond.lays "StaveHouse$Part" "StaveHouse$Part" "clef" "I"), (Jvm.Cond.lays "StaveHouse$Part" "StaveHouse$Part" "number" "I"), (Jvm.Cond.lays "StaveHouse$Part" "StaveHouse$Part" "token" "I"), (Jvm.Cond.lays "StaveHouse$Part" "StaveHouse$Part" "root" "I"), (Jvm.Cond.laysFinal "StaveHouse$Part" "StaveHouse$Part" "events" "[LStaveHouse$Event;"), (Jvm.Cond.lays "StaveHouse$Part" "StaveHouse$Part" "eventCount" "I"), (Jvm.Cond.lays "StaveHouse$Part" "StaveHouse$Part" "endPlace" "J"), (Jvm.Cond.laysFinal "StaveHouse$Part" "StaveHouse$Part" "notes" "[[I"), (Jvm.Cond.laysFinal "StaveHouse$Part" "StaveHouse$Part" "notePlaces" "[J"), (Jvm.Cond.lays "StaveHouse$Part" "StaveHouse$Part" "noteCount" "I"), (Jvm.Cond.lays "StaveHouse$Part" "StaveHouse$Part" "tooManyNotes" "Z"), (Jvm.Cond.laysFinal "StaveHouse$Part" "StaveHouse$Part" "known" "[I")], w ∈ wAll
  exact List.forall_mem_cons.mpr ⟨k_4_153, List.forall_mem_cons.mpr ⟨k_4_155, List.forall_mem_cons.mpr ⟨k_4_157, List.forall_mem_cons.mpr ⟨k_4_159, List.forall_mem_cons.mpr ⟨k_4_161, List.forall_mem_cons.mpr ⟨k_4_163, List.forall_mem_cons.mpr ⟨k_4_165, List.forall_mem_cons.mpr ⟨k_4_167, List.forall_mem_cons.mpr ⟨k_4_169, List.forall_mem_cons.mpr ⟨k_4_171, List.forall_mem_cons.mpr ⟨k_4_173, List.forall_mem_cons.mpr ⟨k_4_175, List.forall_mem_cons.mpr ⟨k_4_177, fun _ h => absurd h List.not_mem_nil⟩⟩⟩⟩⟩⟩⟩⟩⟩⟩⟩⟩⟩
set_option maxRecDepth 20000 in
theorem inW_11 : ∀ w ∈ u_ws RX11 TX11 19, w ∈ wAll := by
  show ∀ w ∈ [(Jvm.Cond.lays "StaveHouse$Walker" "StaveHouse$Walker" "tree" "LStaveHouse$Parser;"), (Jvm.Cond.lays "StaveHouse$Walker" "StaveHouse$Walker" "part" "LStaveHouse$Part;"), (Jvm.Cond.lays "StaveHouse$Walker" "StaveHouse$Walker" "wrong" "I"), (Jvm.Cond.lays "StaveHouse$Walker" "StaveHouse$Walker" "gone" "I"), (Jvm.Cond.lays "StaveHouse$Walker" "StaveHouse$Walker" "loud" "I"), (Jvm.Cond.lays "StaveHouse$Walker" "StaveHouse$Walker" "backs" "I"), (Jvm.Cond.lays "StaveHouse$Walker" "StaveHouse$Walker" "brackets" "I"), (Jvm.Cond.lays "StaveHouse$Walker" "StaveHouse$Walker" "bracket" "I"), (Jvm.Cond.lays "StaveHouse$Walker" "StaveHouse$Walker" "bracketPlace" "I"), (Jvm.Cond.lays "StaveHouse$Walker" "StaveHouse$Walker" "tupletFirst" "I"), (Jvm.Cond.lays "StaveHouse$Walker" "StaveHouse$Walker" "tupletSecond" "I"), (Jvm.Cond.lays "StaveHouse$Walker" "StaveHouse$Walker" "come" "J"), (Jvm.Cond.lays "StaveHouse$Walker" "StaveHouse$Walker" "farthest" "J"), (Jvm.Cond.lays "StaveHouse$Walker" "StaveHouse$Walker" "bar" "J"), (Jvm.Cond.laysFinal "StaveHouse$Walker" "StaveHouse$Walker" "powers" "[I"), (Jvm.Cond.laysFinal "StaveHouse$Walker" "StaveHouse$Walker" "carrySigns" "[I"), (Jvm.Cond.laysFinal "StaveHouse$Walker" "StaveHouse$Walker" "carrySteps" "[I"), (Jvm.Cond.laysFinal "StaveHouse$Walker" "StaveHouse$Walker" "carryTones" "[I"), (Jvm.Cond.lays "StaveHouse$Walker" "StaveHouse$Walker" "carries" "I")], w ∈ wAll
  exact List.forall_mem_cons.mpr ⟨k_1_209, List.forall_mem_cons.mpr ⟨k_1_211, List.forall_mem_cons.mpr ⟨k_1_213, List.forall_mem_cons.mpr ⟨k_1_215, List.forall_mem_cons.mpr ⟨k_1_217, List.forall_mem_cons.mpr ⟨k_1_219, List.forall_mem_cons.mpr ⟨k_1_221, List.forall_mem_cons.mpr ⟨k_1_223, List.forall_mem_cons.mpr ⟨k_1_225, List.forall_mem_cons.mpr ⟨k_1_227, List.forall_mem_cons.mpr ⟨k_1_229, List.forall_mem_cons.mpr ⟨k_1_231, List.forall_mem_cons.mpr ⟨k_1_233, List.forall_mem_cons.mpr ⟨k_1_235, List.forall_mem_cons.mpr ⟨k_1_237, List.forall_mem_cons.mpr ⟨k_1_239, List.forall_mem_cons.mpr ⟨k_2_1, List.forall_mem_cons.mpr ⟨k_2_3, List.forall_mem_cons.mpr ⟨k_2_5, fun _ h => absurd h List.not_mem_nil⟩⟩⟩⟩⟩⟩⟩⟩⟩⟩⟩⟩⟩⟩⟩⟩⟩⟩⟩
abbrev Q_Piece_hasPartNamed (K : zK) (D : va_G) (ca : Nat → ClassId) (ad : Nat → Int → Nat → Nat) (L : List Nat) (r : Int) (F : zF) (B : zB) (A : Nat → Prop) : Array Value → State → Outcome → State → Prop := va_Qi (S := Unit) (fun p _ => p = iI r) (fun _ => zPo D ca ad lnC K.2 L F B A) A
def f_Piece_hasPartNamed_2 (K : zK) : Nat → Int → Int → Int → zF → zB → zO
  | 0, _, _, _, _, _ => none
  | n + 1, l3, l0, l1, F, B => if 0 ≤ l0 ∧ l0 < K.2 6 then if r32 l3 then if r32 (F 6 l0 1) then (if (F 6 l0 1) ≤ l3 then some (0, F, B) else if 0 ≤ l3 ∧ l3 < 4 then if 0 ≤ (B 6 l0 0 l3) ∧ (B 6 l0 0 l3) < K.2 4 then if r64 (F 4 (B 6 l0 0 l3) 0) then if r64 l1 then (if (zcmp (F 4 (B 6 l0 0 l3) 0) l1) = 0 then some (1, F, B) else f_Piece_hasPartNamed_2 K n (l3 + 1) l0 l1 F B) else none else none else none else none) else none else none else none
set_option maxHeartbeats 4000000 in
set_option maxRecDepth 100000 in
theorem b_Piece_hasPartNamed_2 {D : va_G} {ca : Nat → ClassId} {ad : Nat → Int → Nat → Nat} {L : List Nat} {aS vS : Nat → Nat} {A : Nat → Prop} {p : Program} {l : Launch} {e : Env} {s : State} {m : MethodId} {args : Array Value} {below : List Frame} {meth : Method} {c : Code} {K : zK} {r : Int} {F9 : zF} {B9 : zB} (X : zX D ca L aS vS A p s m args meth c prog_8_method_4_code 4 (Option.some Jvm.ClassFile.FieldType.boolean) "StaveHouse$Piece") : ∀ {n : Nat} {l3 : Int} {l0 : Int} {l1 : Int} {F : zF} {B : zB} {H : Heap} {locs : List Loc} {ls : Array Slot}, f_Piece_hasPartNamed_2 K n l3 l0 l1 F B = some (r, F9, B9) → zH D ca ad lnC K.2 L F B A H → va_S A s.heap H locs → lv_has ls 4 [(3, .int (iI l3)), (0, .ref (ad 6 l0 0)), (1, .long (lI l1))] → W p l e ({ frames := 0, cells := 0, slots := 0, locals := 0 } : Room) s m args below meth c H locs 0 0 (MQ below (Q_Piece_hasPartNamed K D ca ad L r F9 B9 A) args s 0 0 A) (F0 m 2 ls []) := by
  obtain ⟨hx, hb, hr, hml, hown, hts, hlk, hK, hA, hL, hX⟩ := id X
  intro n
  induction n with
  | zero =>
    intros
    rename_i hf _ _ _
    cases hf
  | succ n ih =>
    intro l3 l0 l1 F B H locs ls hf hZ hS hl
    replace hf : (if 0 ≤ l0 ∧ l0 < K.2 6 then if r32 l3 then if r32 (F 6 l0 1) then (if (F 6 l0 1) ≤ l3 then some (0, F, B) else if 0 ≤ l3 ∧ l3 < 4 then if 0 ≤ (B 6 l0 0 l3) ∧ (B 6 l0 0 l3) < K.2 4 then if r64 (F 4 (B 6 l0 0 l3) 0) then if r64 l1 then (if (zcmp (F 4 (B 6 l0 0 l3) 0) l1) = 0 then some (1, F, B) else f_Piece_hasPartNamed_2 K n (l3 + 1) l0 l1 F B) else none else none else none else none) else none else none else none) = some (r, F9, B9) := hf
    refine lv_iload_n hx hb d_8_4_2 rfl (lv_at hl 0 rfl) ?_
    refine lv_aload_n hx hb d_8_4_3 rfl (lv_at hl 1 rfl) ?_
    obtain ⟨g1, hf⟩ := gif hf
    refine zget (ci := 6) (C := RX6) (T := TX6) (v := .int (iI (F 6 l0 1))) (k := 1) hx hb hts inW_6 hown hK hZ g1.1 g1.2 rfl (by decide) k_2_190 rfl d_8_4_4 ?_
    obtain ⟨g2, hf⟩ := gif hf
    obtain ⟨g3, hf⟩ := gif hf
    refine zge (tgt := 32) hx hb g2 g3 d_8_4_7 (by decide) (fun h4 => ?_) (fun h4 => ?_)
    · replace hf := gpos hf h4
      refine lv_iconst (v := iI 0) hx hb d_8_4_32 rfl ?_
      cases hf
      exact W.zret hx hb hr rfl (fun t ht hW => ⟨⟨_, (), rfl, rfl, by rw [ht]; exact hZ, va_K.moved hW.alike hK⟩, hS.F ht⟩) hS.2.2 d_8_4_33 hlk
    · replace hf := gneg hf h4
      refine lv_aload_n hx hb d_8_4_10 rfl (lv_at hl 1 rfl) ?_
      refine zget (ci := 6) (C := RX6) (T := TX6) (v := .ref (ad 6 l0 (0 + 1))) (k := 0) hx hb hts inW_6 hown hK hZ g1.1 g1.2 rfl (by decide) k_2_185 rfl d_8_4_11 ?_
      refine lv_iload_n hx hb d_8_4_14 rfl (lv_at hl 0 rfl) ?_
      obtain ⟨g5, hf⟩ := gif hf
      refine zaldR (t := 4) (x := 6) (ci := 6) (k := 0) hx hb hK rfl rfl hZ g1.1 g1.2 rfl (Nat.le_of_ble_eq_true rfl) g5.1 g5.2 d_8_4_15 ?_
      obtain ⟨g6, hf⟩ := gif hf
      refine zunrf g6.1 ?_
      refine zget (ci := 4) (C := RX4) (T := TX4) (v := .long (lI (F 4 (B 6 l0 0 l3) 0))) (k := 0) hx hb hts inW_4 hown hK hZ g6.1 g6.2 rfl (by decide) k_4_115 rfl d_8_4_16 ?_
      refine lv_lload_n hx hb d_8_4_19 rfl (lv_at hl 2 rfl) ?_
      obtain ⟨g7, hf⟩ := gif hf
      obtain ⟨g8, hf⟩ := gif hf
      refine zcmp_r hx hb g7 g8 d_8_4_20 ?_
      refine z0ne (tgt := 26) hx hb zcmp_32 d_8_4_21 (by decide) (fun h9 => ?_) (fun h9 => ?_)
      · replace hf := gneg hf h9
        refine lv_iinc (v := iI (l3 + 1)) (lv' := [(3, .int (iI (l3 + 1))), (0, .ref (ad 6 l0 0)), (1, .long (lI l1))]) hx hb d_8_4_26 hl (k := 0) rfl (iI_add _ 1) (by decide) rfl (fun ls hl => ?_)
        refine lv_goto (tgt := 2) hx hb d_8_4_29 (by decide) ?_
        exact ih hf hZ hS (lv_sub hl [0, 1, 2] rfl)
      · replace hf := gpos hf h9
        refine lv_iconst (v := iI 1) hx hb d_8_4_24 rfl ?_
        cases hf
        exact W.zret hx hb hr rfl (fun t ht hW => ⟨⟨_, (), rfl, rfl, by rw [ht]; exact hZ, va_K.moved hW.alike hK⟩, hS.F ht⟩) hS.2.2 d_8_4_25 hlk

def f_Piece_hasPartNamed (K : zK) (l0 : Int) (l1 : Int) (F : zF) (B : zB) : zO := f_Piece_hasPartNamed_2 K K.1 0 l0 l1 F B
set_option maxHeartbeats 4000000 in
set_option maxRecDepth 100000 in
theorem c_Piece_hasPartNamed {l : Launch} {D : va_G} {ca : Nat → ClassId} {ad : Nat → Int → Nat → Nat} {L : List Nat} {aS vS : Nat → Nat} {sz : Nat} {K : zK}  {l0 : Int} {l1 : Int} {F F9 : zF} {B B9 : zB} {r : Int} (hf : f_Piece_hasPartNamed K l0 l1 F B = some (r, F9, B9)) : Met l ({ cls := "StaveHouse$Piece", name := "hasPartNamed", desc := "(J)Z" } : Jvm.MethodName) (Cond.code ({ cls := "StaveHouse$Piece", name := "hasPartNamed", desc := "(J)Z" } : Jvm.MethodName) prog_8_method_4_code 4 (Option.some Jvm.ClassFile.FieldType.boolean) :: wAll) ({ frames := 0, cells := 0, slots := 0, locals := 0 } : Room) (va_Pc [.ref (ad 6 l0 0), .long (lI l1)] (zPre D ca ad lnC K.2 L aS vS F B sz)) (Q_Piece_hasPartNamed K D ca ad L r F9 B9 (zA L sz)) 0 0 (zA L sz) := by
  refine zMet (Qc := Q_Piece_hasPartNamed K D ca ad L r F9 B9) (lv := [(0, .ref (ad 6 l0 0)), (1, .long (lI l1))]) (by decide) (Nat.le_of_ble_eq_true rfl) rfl (fun A p e s m below meth c ls X hZ hS hl => ?_)
  obtain ⟨hx, hb, hr, hml, hown, hts, hlk, hK, hA, hL, hX⟩ := id X
  replace hf : (f_Piece_hasPartNamed_2 K K.1 0 l0 l1 F B) = some (r, F9, B9) := hf
  refine lv_iconst (v := iI 0) hx hb d_8_4_0 rfl ?_
  refine lv_istore_n (lv' := [(3, .int (iI 0)), (0, .ref (ad 6 l0 0)), (1, .long (lI l1))]) hx hb d_8_4_1 rfl hl (by decide) rfl (fun ls hl => ?_)
  exact b_Piece_hasPartNamed_2 X hf hZ hS (lv_sub hl [0, 1, 2] rfl)

abbrev Q_Part_clear (K : zK) (D : va_G) (ca : Nat → ClassId) (ad : Nat → Int → Nat → Nat) (L : List Nat) (r : Int) (F : zF) (B : zB) (A : Nat → Prop) : Array Value → State → Outcome → State → Prop := va_Qv (S := Unit) (fun _ => True) (fun _ => zPo D ca ad lnC K.2 L F B A) A
def f_Part_clear (K : zK) (l0 : Int) (F : zF) (B : zB) : zO := if 0 ≤ l0 ∧ l0 < K.2 4 then some (0, (zup3 (zup3 (zup3 F 4 l0 6 0) 4 l0 10 0) 4 l0 7 0), B) else none
set_option maxHeartbeats 4000000 in
set_option maxRecDepth 100000 in
theorem c_Part_clear {l : Launch} {D : va_G} {ca : Nat → ClassId} {ad : Nat → Int → Nat → Nat} {L : List Nat} {aS vS : Nat → Nat} {sz : Nat} {K : zK}  {l0 : Int} {F F9 : zF} {B B9 : zB} {r : Int} (hf : f_Part_clear K l0 F B = some (r, F9, B9)) : Met l ({ cls := "StaveHouse$Part", name := "clear", desc := "()V" } : Jvm.MethodName) (Cond.code ({ cls := "StaveHouse$Part", name := "clear", desc := "()V" } : Jvm.MethodName) prog_6_method_2_code 1 (Option.none : Option Jvm.ClassFile.FieldType) :: wAll) ({ frames := 0, cells := 0, slots := 0, locals := 0 } : Room) (va_Pc [.ref (ad 4 l0 0)] (zPre D ca ad lnC K.2 L aS vS F B sz)) (Q_Part_clear K D ca ad L r F9 B9 (zA L sz)) 0 0 (zA L sz) := by
  refine zMet (Qc := Q_Part_clear K D ca ad L r F9 B9) (lv := [(0, .ref (ad 4 l0 0))]) (by decide) (Nat.le_of_ble_eq_true rfl) rfl (fun A p e s m below meth c ls X hZ hS hl => ?_)
  obtain ⟨hx, hb, hr, hml, hown, hts, hlk, hK, hA, hL, hX⟩ := id X
  replace hf : (if 0 ≤ l0 ∧ l0 < K.2 4 then some (0, (zup3 (zup3 (zup3 F 4 l0 6 0) 4 l0 10 0) 4 l0 7 0), B) else none) = some (r, F9, B9) := hf
  refine lv_aload_n hx hb d_6_2_0 rfl (lv_at hl 0 rfl) ?_
  refine lv_iconst (v := iI 0) hx hb d_6_2_1 rfl ?_
  obtain ⟨g1, hf⟩ := gif hf
  refine zput (ci := 4) (C := RX4) (T := TX4) (k := 6) (v := 0) (w := .int (iI 0)) hx hb hts inW_4 tyX4 tyX4_ok nmX4 hown hK hZ hS g1.1 g1.2 rfl (by decide) k_4_135 rfl (fun G h => congrArg (fun q => Value.int (iI q)) h) rfl rfl (zno (by decide)) d_6_2_2 (fun H2 locs2 hZ2 hS2 => ?_)
  refine lv_aload_n hx hb d_6_2_5 rfl (lv_at hl 0 rfl) ?_
  refine lv_iconst (v := iI 0) hx hb d_6_2_6 rfl ?_
  refine zput (ci := 4) (C := RX4) (T := TX4) (k := 10) (v := 0) (w := .int (iI 0)) hx hb hts inW_4 tyX4 tyX4_ok nmX4 hown hK hZ2 hS2 g1.1 g1.2 rfl (by decide) k_4_148 rfl (fun G h => congrArg (fun q => Value.int (iI q)) h) rfl rfl (zno (by decide)) d_6_2_7 (fun H3 locs3 hZ3 hS3 => ?_)
  refine lv_aload_n hx hb d_6_2_10 rfl (lv_at hl 0 rfl) ?_
  refine lv_lconst (v := lI 0) hx hb d_6_2_11 (by decide) ?_
  refine zput (ci := 4) (C := RX4) (T := TX4) (k := 7) (v := 0) (w := .long (lI 0)) hx hb hts inW_4 tyX4 tyX4_ok nmX4 hown hK hZ3 hS3 g1.1 g1.2 rfl (by decide) k_4_140 rfl (fun G h => congrArg (fun q => Value.long (lI q)) h) rfl rfl (zno (by decide)) d_6_2_12 (fun H4 locs4 hZ4 hS4 => ?_)
  cases hf
  exact W.vret hx hb hr (fun t ht hW => ⟨⟨(), rfl, trivial, by rw [ht]; exact hZ4, va_K.moved hW.alike hK⟩, hS4.F ht⟩) hS4.2.2 d_6_2_15 hlk

abbrev Q_Piece_barLength (K : zK) (D : va_G) (ca : Nat → ClassId) (ad : Nat → Int → Nat → Nat) (L : List Nat) (r : Int) (F : zF) (B : zB) (A : Nat → Prop) : Array Value → State → Outcome → State → Prop := va_Ql (S := Unit) (fun p _ => p = lI r) (fun _ => zPo D ca ad lnC K.2 L F B A) A
def f_Piece_barLength (K : zK) (l0 : Int) (F : zF) (B : zB) : zO := if 0 ≤ l0 ∧ l0 < K.2 6 then if r32 (F 6 l0 5) then if r32 (zmax (F 6 l0 5) 1) then if ¬ lI (zmax (F 6 l0 5) 1) = 0 then if r32 (F 6 l0 4) then some ((zldv 812851200 (zmax (F 6 l0 5) 1)) * (F 6 l0 4), F, B) else none else none else none else none else none
set_option maxHeartbeats 4000000 in
set_option maxRecDepth 100000 in
theorem c_Piece_barLength {l : Launch} {D : va_G} {ca : Nat → ClassId} {ad : Nat → Int → Nat → Nat} {L : List Nat} {aS vS : Nat → Nat} {sz : Nat} {K : zK}  {l0 : Int} {F F9 : zF} {B B9 : zB} {r : Int} (hf : f_Piece_barLength K l0 F B = some (r, F9, B9)) : Met l ({ cls := "StaveHouse$Piece", name := "barLength", desc := "()J" } : Jvm.MethodName) (Cond.code ({ cls := "StaveHouse$Piece", name := "barLength", desc := "()J" } : Jvm.MethodName) prog_8_method_5_code 1 (Option.some Jvm.ClassFile.FieldType.long) :: wAll) ({ frames := 1, cells := 0, slots := 0, locals := 15 } : Room) (va_Pc [.ref (ad 6 l0 0)] (zPre D ca ad lnC K.2 L aS vS F B sz)) (Q_Piece_barLength K D ca ad L r F9 B9 (zA L sz)) 0 0 (zA L sz) := by
  refine zMet (Qc := Q_Piece_barLength K D ca ad L r F9 B9) (lv := [(0, .ref (ad 6 l0 0))]) (by decide) (Nat.le_of_ble_eq_true rfl) rfl (fun A p e s m below meth c ls X hZ hS hl => ?_)
  obtain ⟨hx, hb, hr, hml, hown, hts, hlk, hK, hA, hL, hX⟩ := id X
  replace hf : (if 0 ≤ l0 ∧ l0 < K.2 6 then if r32 (F 6 l0 5) then if r32 (zmax (F 6 l0 5) 1) then if ¬ lI (zmax (F 6 l0 5) 1) = 0 then if r32 (F 6 l0 4) then some ((zldv 812851200 (zmax (F 6 l0 5) 1)) * (F 6 l0 4), F, B) else none else none else none else none else none) = some (r, F9, B9) := hf
  refine lv_ldc2 hx hb hown (hts _ k_4_193) d_8_5_0 ?_
  refine W.eq (g2 := F0 m 3 ls [.long (lI 812851200)]) rfl ?_
  refine lv_aload_n hx hb d_8_5_3 rfl (lv_at hl 0 rfl) ?_
  obtain ⟨g1, hf⟩ := gif hf
  refine zget (ci := 6) (C := RX6) (T := TX6) (v := .int (iI (F 6 l0 5))) (k := 5) hx hb hts inW_6 hown hK hZ g1.1 g1.2 rfl (by decide) k_2_212 rfl d_8_5_4 ?_
  refine lv_iconst (v := iI 1) hx hb d_8_5_7 rfl ?_
  obtain ⟨g2, hf⟩ := gif hf
  refine va_mmax hx hb (by rw [hml]; exact hl.1.symm) hown (hts _ k_4_194) (hts _ k_1_39) (hts _ k_1_3) (hts _ k_1_40) (Nat.le_of_ble_eq_true rfl) (Nat.le_of_ble_eq_true rfl) (Nat.le_of_ble_eq_true rfl) (Nat.le_of_ble_eq_true rfl) d_8_5_8 ?_
  rw [zmax_e g2 (by decide)]
  obtain ⟨g3, hf⟩ := gif hf
  refine zi2l hx hb g3 d_8_5_11 ?_
  obtain ⟨g4, hf⟩ := gif hf
  refine zldv_r hx hb g4 d_8_5_12 ?_
  refine lv_aload_n hx hb d_8_5_13 rfl (lv_at hl 0 rfl) ?_
  refine zget (ci := 6) (C := RX6) (T := TX6) (v := .int (iI (F 6 l0 4))) (k := 4) hx hb hts inW_6 hown hK hZ g1.1 g1.2 rfl (by decide) k_2_207 rfl d_8_5_14 ?_
  obtain ⟨g5, hf⟩ := gif hf
  refine zi2l hx hb g5 d_8_5_17 ?_
  refine zlmul hx hb d_8_5_18 ?_
  cases hf
  exact W.lret hx hb hr (fun t ht hW => ⟨⟨_, (), rfl, rfl, by rw [ht]; exact hZ, va_K.moved hW.alike hK⟩, hS.F ht⟩) hS.2.2 d_8_5_19 hlk

abbrev Q_Walker_refuse (K : zK) (D : va_G) (ca : Nat → ClassId) (ad : Nat → Int → Nat → Nat) (L : List Nat) (r : Int) (F : zF) (B : zB) (A : Nat → Prop) : Array Value → State → Outcome → State → Prop := va_Qv (S := Unit) (fun _ => True) (fun _ => zPo D ca ad lnC K.2 L F B A) A
def f_Walker_refuse_17 (K : zK)  (F : zF) (B : zB) : zO := some (0, F, B)
set_option maxHeartbeats 4000000 in
set_option maxRecDepth 100000 in
theorem b_Walker_refuse_17 {D : va_G} {ca : Nat → ClassId} {ad : Nat → Int → Nat → Nat} {L : List Nat} {aS vS : Nat → Nat} {A : Nat → Prop} {p : Program} {l : Launch} {e : Env} {s : State} {m : MethodId} {args : Array Value} {below : List Frame} {meth : Method} {c : Code} {K : zK} {r : Int} {F9 : zF} {B9 : zB} (X : zX D ca L aS vS A p s m args meth c prog_13_method_3_code 3 (Option.none : Option Jvm.ClassFile.FieldType) "StaveHouse$Walker")  {F : zF} {B : zB} {H : Heap} {locs : List Loc} {ls : Array Slot} (hf : f_Walker_refuse_17 K  F B = some (r, F9, B9)) (hZ : zH D ca ad lnC K.2 L F B A H) (hS : va_S A s.heap H locs) (hl : lv_has ls 3 []) : W p l e ({ frames := 0, cells := 0, slots := 0, locals := 0 } : Room) s m args below meth c H locs 0 0 (MQ below (Q_Walker_refuse K D ca ad L r F9 B9 A) args s 0 0 A) (F0 m 17 ls []) := by
  obtain ⟨hx, hb, hr, hml, hown, hts, hlk, hK, hA, hL, hX⟩ := id X
  replace hf : (some (0, F, B)) = some (r, F9, B9) := hf
  cases hf
  exact W.vret hx hb hr (fun t ht hW => ⟨⟨(), rfl, trivial, by rw [ht]; exact hZ, va_K.moved hW.alike hK⟩, hS.F ht⟩) hS.2.2 d_13_3_17 hlk

def f_Walker_refuse (K : zK) (l0 : Int) (l1 : Int) (l2 : Int) (F : zF) (B : zB) : zO := if 0 ≤ l0 ∧ l0 < K.2 11 then if r32 (F 11 l0 2) then (if (F 11 l0 2) = 0 then f_Walker_refuse_17 K (zup3 F 11 l0 2 (l1 + (16 * l2))) B else f_Walker_refuse_17 K F B) else none else none
set_option maxHeartbeats 4000000 in
set_option maxRecDepth 100000 in
theorem c_Walker_refuse {l : Launch} {D : va_G} {ca : Nat → ClassId} {ad : Nat → Int → Nat → Nat} {L : List Nat} {aS vS : Nat → Nat} {sz : Nat} {K : zK}  {l0 : Int} {l1 : Int} {l2 : Int} {F F9 : zF} {B B9 : zB} {r : Int} (hf : f_Walker_refuse K l0 l1 l2 F B = some (r, F9, B9)) : Met l ({ cls := "StaveHouse$Walker", name := "refuse", desc := "(II)V" } : Jvm.MethodName) (Cond.code ({ cls := "StaveHouse$Walker", name := "refuse", desc := "(II)V" } : Jvm.MethodName) prog_13_method_3_code 3 (Option.none : Option Jvm.ClassFile.FieldType) :: wAll) ({ frames := 0, cells := 0, slots := 0, locals := 0 } : Room) (va_Pc [.ref (ad 11 l0 0), .int (iI l1), .int (iI l2)] (zPre D ca ad lnC K.2 L aS vS F B sz)) (Q_Walker_refuse K D ca ad L r F9 B9 (zA L sz)) 0 0 (zA L sz) := by
  refine zMet (Qc := Q_Walker_refuse K D ca ad L r F9 B9) (lv := [(0, .ref (ad 11 l0 0)), (1, .int (iI l1)), (2, .int (iI l2))]) (by decide) (Nat.le_of_ble_eq_true rfl) rfl (fun A p e s m below meth c ls X hZ hS hl => ?_)
  obtain ⟨hx, hb, hr, hml, hown, hts, hlk, hK, hA, hL, hX⟩ := id X
  replace hf : (if 0 ≤ l0 ∧ l0 < K.2 11 then if r32 (F 11 l0 2) then (if (F 11 l0 2) = 0 then f_Walker_refuse_17 K (zup3 F 11 l0 2 (l1 + (16 * l2))) B else f_Walker_refuse_17 K F B) else none else none) = some (r, F9, B9) := hf
  refine lv_aload_n hx hb d_13_3_0 rfl (lv_at hl 0 rfl) ?_
  obtain ⟨g1, hf⟩ := gif hf
  refine zget (ci := 11) (C := RX11) (T := TX11) (v := .int (iI (F 11 l0 2))) (k := 2) hx hb hts inW_11 hown hK hZ g1.1 g1.2 rfl (by decide) k_1_192 rfl d_13_3_1 ?_
  obtain ⟨g2, hf⟩ := gif hf
  refine z0ne (tgt := 17) hx hb g2 d_13_3_4 (by decide) (fun h3 => ?_) (fun h3 => ?_)
  · replace hf := gneg hf h3
    exact b_Walker_refuse_17 X hf hZ hS (lv_sub hl [] rfl)
  · replace hf := gpos hf h3
    refine lv_aload_n hx hb d_13_3_7 rfl (lv_at hl 0 rfl) ?_
    refine lv_iload_n hx hb d_13_3_8 rfl (lv_at hl 1 rfl) ?_
    refine lv_bipush (v := iI 16) hx hb d_13_3_9 (by decide) ?_
    refine lv_iload_n hx hb d_13_3_11 rfl (lv_at hl 2 rfl) ?_
    refine zmul hx hb d_13_3_12 ?_
    refine zadd hx hb d_13_3_13 ?_
    refine zput (ci := 11) (C := RX11) (T := TX11) (k := 2) (v := (l1 + (16 * l2))) (w := .int (iI (l1 + (16 * l2)))) hx hb hts inW_11 tyX11 tyX11_ok nmX11 hown hK hZ hS g1.1 g1.2 rfl (by decide) k_1_192 rfl (fun G h => congrArg (fun q => Value.int (iI q)) h) rfl rfl (zno (by decide)) d_13_3_14 (fun H4 locs4 hZ4 hS4 => ?_)
    exact b_Walker_refuse_17 X hf hZ4 hS4 (lv_sub hl [] rfl)

abbrev Q_Walker_slowed (K : zK) (D : va_G) (ca : Nat → ClassId) (ad : Nat → Int → Nat → Nat) (L : List Nat) (r : Int) (F : zF) (B : zB) (A : Nat → Prop) : Array Value → State → Outcome → State → Prop := va_Qi (S := Unit) (fun p _ => p = iI r) (fun _ => zPo D ca ad lnC K.2 L F B A) A
def f_Walker_slowed_122 (K : zK) (s0 : Int) (F : zF) (B : zB) : zO := some (s0, F, B)
set_option maxHeartbeats 4000000 in
set_option maxRecDepth 100000 in
theorem b_Walker_slowed_122 {D : va_G} {ca : Nat → ClassId} {ad : Nat → Int → Nat → Nat} {L : List Nat} {aS vS : Nat → Nat} {A : Nat → Prop} {p : Program} {l : Launch} {e : Env} {s : State} {m : MethodId} {args : Array Value} {below : List Frame} {meth : Method} {c : Code} {K : zK} {r : Int} {F9 : zF} {B9 : zB} (X : zX D ca L aS vS A p s m args meth c prog_13_method_12_code 5 (Option.some Jvm.ClassFile.FieldType.int) "StaveHouse$Walker") {s0 : Int} {F : zF} {B : zB} {H : Heap} {locs : List Loc} {ls : Array Slot} (hf : f_Walker_slowed_122 K s0 F B = some (r, F9, B9)) (hZ : zH D ca ad lnC K.2 L F B A H) (hS : va_S A s.heap H locs) (hl : lv_has ls 5 []) : W p l e ({ frames := 0, cells := 0, slots := 0, locals := 0 } : Room) s m args below meth c H locs 0 0 (MQ below (Q_Walker_slowed K D ca ad L r F9 B9 A) args s 0 0 A) (F0 m 122 ls [.int (iI s0)]) := by
  obtain ⟨hx, hb, hr, hml, hown, hts, hlk, hK, hA, hL, hX⟩ := id X
  replace hf : (some (s0, F, B)) = some (r, F9, B9) := hf
  cases hf
  exact W.iret hx hb hr (fun t ht hW => ⟨⟨_, (), rfl, rfl, by rw [ht]; exact hZ, va_K.moved hW.alike hK⟩, hS.F ht⟩) hS.2.2 d_13_12_122 hlk

def f_Walker_slowed_70 (rec59 : Int → Int → Int → zF → zB → zO) (K : zK) : Nat → Int → Int → Int → Int → zF → zB → zO
  | 0, _, _, _, _, _, _ => none
  | n + 1, l4, l3, l2, l0, F, B => if 0 ≤ l0 ∧ l0 < K.2 11 then if 0 ≤ l3 ∧ l3 < 4 then if r32 l4 then if r32 (B 11 l0 14 l3) then (if (B 11 l0 14 l3) ≤ l4 then rec59 (l3 + 1) l2 l0 F B else if 0 ≤ l3 ∧ l3 < ztl 6 then if r32 (l2 * (ztv 6 l3)) then (if (l2 * (ztv 6 l3)) ≤ 1024 then f_Walker_slowed_70 rec59 K n (l4 + 1) l3 (l2 * (ztv 6 l3)) l0 F B else some ((-1), F, B)) else none else none) else none else none else none else none
set_option maxHeartbeats 4000000 in
set_option maxRecDepth 100000 in
theorem b_Walker_slowed_70 {D : va_G} {ca : Nat → ClassId} {ad : Nat → Int → Nat → Nat} {L : List Nat} {aS vS : Nat → Nat} {A : Nat → Prop} {p : Program} {l : Launch} {e : Env} {s : State} {m : MethodId} {args : Array Value} {below : List Frame} {meth : Method} {c : Code} {K : zK} {r : Int} {F9 : zF} {B9 : zB} (X : zX D ca L aS vS A p s m args meth c prog_13_method_12_code 5 (Option.some Jvm.ClassFile.FieldType.int) "StaveHouse$Walker") {rec59 : Int → Int → Int → zF → zB → zO} (hrec59 : ∀ {l3 : Int} {l2 : Int} {l0 : Int} {F : zF} {B : zB} {H : Heap} {locs : List Loc} {ls : Array Slot}, rec59 l3 l2 l0 F B = some (r, F9, B9) → zH D ca ad lnC K.2 L F B A H → va_S A s.heap H locs → lv_has ls 5 [(3, .int (iI l3)), (2, .int (iI l2)), (0, .ref (ad 11 l0 0))] → W p l e ({ frames := 0, cells := 0, slots := 0, locals := 0 } : Room) s m args below meth c H locs 0 0 (MQ below (Q_Walker_slowed K D ca ad L r F9 B9 A) args s 0 0 A) (F0 m 59 ls [])) : ∀ {n : Nat} {l4 : Int} {l3 : Int} {l2 : Int} {l0 : Int} {F : zF} {B : zB} {H : Heap} {locs : List Loc} {ls : Array Slot}, f_Walker_slowed_70 rec59 K n l4 l3 l2 l0 F B = some (r, F9, B9) → zH D ca ad lnC K.2 L F B A H → va_S A s.heap H locs → lv_has ls 5 [(4, .int (iI l4)), (3, .int (iI l3)), (2, .int (iI l2)), (0, .ref (ad 11 l0 0))] → W p l e ({ frames := 0, cells := 0, slots := 0, locals := 0 } : Room) s m args below meth c H locs 0 0 (MQ below (Q_Walker_slowed K D ca ad L r F9 B9 A) args s 0 0 A) (F0 m 70 ls []) := by
  obtain ⟨hx, hb, hr, hml, hown, hts, hlk, hK, hA, hL, hX⟩ := id X
  intro n
  induction n with
  | zero =>
    intros
    rename_i hf _ _ _
    cases hf
  | succ n ih =>
    intro l4 l3 l2 l0 F B H locs ls hf hZ hS hl
    replace hf : (if 0 ≤ l0 ∧ l0 < K.2 11 then if 0 ≤ l3 ∧ l3 < 4 then if r32 l4 then if r32 (B 11 l0 14 l3) then (if (B 11 l0 14 l3) ≤ l4 then rec59 (l3 + 1) l2 l0 F B else if 0 ≤ l3 ∧ l3 < ztl 6 then if r32 (l2 * (ztv 6 l3)) then (if (l2 * (ztv 6 l3)) ≤ 1024 then f_Walker_slowed_70 rec59 K n (l4 + 1) l3 (l2 * (ztv 6 l3)) l0 F B else some ((-1), F, B)) else none else none) else none else none else none else none) = some (r, F9, B9) := hf
    refine lv_iload hx hb d_13_12_70 (lv_at hl 0 rfl) ?_
    refine lv_aload_n hx hb d_13_12_72 rfl (lv_at hl 3 rfl) ?_
    obtain ⟨g17, hf⟩ := gif hf
    refine zget (ci := 11) (C := RX11) (T := TX11) (v := .ref (ad 11 l0 (14 + 1))) (k := 14) hx hb hts inW_11 hown hK hZ g17.1 g17.2 rfl (by decide) k_1_204 rfl d_13_12_73 ?_
    refine lv_iload_n hx hb d_13_12_76 rfl (lv_at hl 1 rfl) ?_
    obtain ⟨g18, hf⟩ := gif hf
    refine zald (ci := 11) (k := 14) hx hb hK rfl hZ g17.1 g17.2 rfl (Nat.le_of_ble_eq_true rfl) g18.1 g18.2 d_13_12_77 ?_
    obtain ⟨g19, hf⟩ := gif hf
    obtain ⟨g20, hf⟩ := gif hf
    refine zge (tgt := 104) hx hb g19 g20 d_13_12_78 (by decide) (fun h21 => ?_) (fun h21 => ?_)
    · replace hf := gpos hf h21
      refine lv_iinc (v := iI (l3 + 1)) (lv' := [(3, .int (iI (l3 + 1))), (4, .int (iI l4)), (2, .int (iI l2)), (0, .ref (ad 11 l0 0))]) hx hb d_13_12_104 hl (k := 1) rfl (iI_add _ 1) (by decide) rfl (fun ls hl => ?_)
      refine lv_goto (tgt := 59) hx hb d_13_12_107 (by decide) ?_
      exact hrec59 hf hZ hS (lv_sub hl [0, 2, 3] rfl)
    · replace hf := gneg hf h21
      refine lv_iload_n hx hb d_13_12_81 rfl (lv_at hl 2 rfl) ?_
      refine va_gets hx hb (hX.2.2.2.2.2.2 6 _ rfl).1 hS hown (hts _ k_4_220) (fun _ h => h) d_13_12_82 ?_
      refine W.eq (g2 := F0 m 85 ls [.ref (vS (1000 + 6)), .int (iI l2)]) rfl ?_
      refine lv_iload_n hx hb d_13_12_85 rfl (lv_at hl 1 rfl) ?_
      obtain ⟨g22, hf⟩ := gif hf
      refine va_ti (v := .int (iI (ztv 6 l3))) hx hb (ztI hX (by decide) (by decide)) hS (zt_in (by decide) g22) (ztI_v (by decide) g22) d_13_12_86 ?_
      refine zmul hx hb d_13_12_87 ?_
      refine lv_istore_n (lv' := [(2, .int (iI (l2 * (ztv 6 l3)))), (4, .int (iI l4)), (3, .int (iI l3)), (0, .ref (ad 11 l0 0))]) hx hb d_13_12_88 rfl hl (by decide) rfl (fun ls hl => ?_)
      refine lv_iload_n hx hb d_13_12_89 rfl (lv_at hl 0 rfl) ?_
      refine lv_sipush (v := iI 1024) hx hb d_13_12_90 (by decide) ?_
      obtain ⟨g23, hf⟩ := gif hf
      refine zle (tgt := 98) hx hb g23 (by decide) d_13_12_93 (by decide) (fun h24 => ?_) (fun h24 => ?_)
      · replace hf := gpos hf h24
        refine lv_iinc (v := iI (l4 + 1)) (lv' := [(4, .int (iI (l4 + 1))), (2, .int (iI (l2 * (ztv 6 l3)))), (3, .int (iI l3)), (0, .ref (ad 11 l0 0))]) hx hb d_13_12_98 hl (k := 1) rfl (iI_add _ 1) (by decide) rfl (fun ls hl => ?_)
        refine lv_goto (tgt := 70) hx hb d_13_12_101 (by decide) ?_
        exact ih hf hZ hS (lv_sub hl [0, 2, 1, 3] rfl)
      · replace hf := gneg hf h24
        refine lv_iconst (v := iI (-1)) hx hb d_13_12_96 rfl ?_
        cases hf
        exact W.iret hx hb hr (fun t ht hW => ⟨⟨_, (), rfl, rfl, by rw [ht]; exact hZ, va_K.moved hW.alike hK⟩, hS.F ht⟩) hS.2.2 d_13_12_97 hlk

def f_Walker_slowed_59 (K : zK) : Nat → Int → Int → Int → zF → zB → zO
  | 0, _, _, _, _, _ => none
  | n + 1, l3, l2, l0, F, B => if r32 l3 then if r32 (ztl 6) then (if (ztl 6) ≤ l3 then if r32 l2 then (if l2 ≤ 1024 then f_Walker_slowed_122 K l2 F B else f_Walker_slowed_122 K (-1) F B) else none else f_Walker_slowed_70 (f_Walker_slowed_59 K n) K K.1 0 l3 l2 l0 F B) else none else none
set_option maxHeartbeats 4000000 in
set_option maxRecDepth 100000 in
theorem b_Walker_slowed_59 {D : va_G} {ca : Nat → ClassId} {ad : Nat → Int → Nat → Nat} {L : List Nat} {aS vS : Nat → Nat} {A : Nat → Prop} {p : Program} {l : Launch} {e : Env} {s : State} {m : MethodId} {args : Array Value} {below : List Frame} {meth : Method} {c : Code} {K : zK} {r : Int} {F9 : zF} {B9 : zB} (X : zX D ca L aS vS A p s m args meth c prog_13_method_12_code 5 (Option.some Jvm.ClassFile.FieldType.int) "StaveHouse$Walker") : ∀ {n : Nat} {l3 : Int} {l2 : Int} {l0 : Int} {F : zF} {B : zB} {H : Heap} {locs : List Loc} {ls : Array Slot}, f_Walker_slowed_59 K n l3 l2 l0 F B = some (r, F9, B9) → zH D ca ad lnC K.2 L F B A H → va_S A s.heap H locs → lv_has ls 5 [(3, .int (iI l3)), (2, .int (iI l2)), (0, .ref (ad 11 l0 0))] → W p l e ({ frames := 0, cells := 0, slots := 0, locals := 0 } : Room) s m args below meth c H locs 0 0 (MQ below (Q_Walker_slowed K D ca ad L r F9 B9 A) args s 0 0 A) (F0 m 59 ls []) := by
  obtain ⟨hx, hb, hr, hml, hown, hts, hlk, hK, hA, hL, hX⟩ := id X
  intro n
  induction n with
  | zero =>
    intros
    rename_i hf _ _ _
    cases hf
  | succ n ih =>
    intro l3 l2 l0 F B H locs ls hf hZ hS hl
    replace hf : (if r32 l3 then if r32 (ztl 6) then (if (ztl 6) ≤ l3 then if r32 l2 then (if l2 ≤ 1024 then f_Walker_slowed_122 K l2 F B else f_Walker_slowed_122 K (-1) F B) else none else f_Walker_slowed_70 (f_Walker_slowed_59 K n) K K.1 0 l3 l2 l0 F B) else none else none) = some (r, F9, B9) := hf
    refine lv_iload_n hx hb d_13_12_59 rfl (lv_at hl 0 rfl) ?_
    refine va_gets hx hb (hX.2.2.2.2.2.2 6 _ rfl).1 hS hown (hts _ k_4_220) (fun _ h => h) d_13_12_60 ?_
    refine W.eq (g2 := F0 m 63 ls [.ref (vS (1000 + 6)), .int (iI l3)]) rfl ?_
    refine va_tlen (v := iI (ztl 6)) hx hb (ztT hX (by decide)) hS (ztl_n _) d_13_12_63 ?_
    obtain ⟨g12, hf⟩ := gif hf
    obtain ⟨g13, hf⟩ := gif hf
    refine zge (tgt := 110) hx hb g12 g13 d_13_12_64 (by decide) (fun h14 => ?_) (fun h14 => ?_)
    · replace hf := gpos hf h14
      refine lv_iload_n hx hb d_13_12_110 rfl (lv_at hl 1 rfl) ?_
      refine lv_sipush (v := iI 1024) hx hb d_13_12_111 (by decide) ?_
      obtain ⟨g15, hf⟩ := gif hf
      refine zle (tgt := 121) hx hb g15 (by decide) d_13_12_114 (by decide) (fun h16 => ?_) (fun h16 => ?_)
      · replace hf := gpos hf h16
        refine lv_iload_n hx hb d_13_12_121 rfl (lv_at hl 1 rfl) ?_
        exact b_Walker_slowed_122 X hf hZ hS (lv_sub hl [] rfl)
      · replace hf := gneg hf h16
        refine lv_iconst (v := iI (-1)) hx hb d_13_12_117 rfl ?_
        refine lv_goto (tgt := 122) hx hb d_13_12_118 (by decide) ?_
        exact b_Walker_slowed_122 X hf hZ hS (lv_sub hl [] rfl)
    · replace hf := gneg hf h14
      refine lv_iconst (v := iI 0) hx hb d_13_12_67 rfl ?_
      refine lv_istore (lv' := [(4, .int (iI 0)), (3, .int (iI l3)), (2, .int (iI l2)), (0, .ref (ad 11 l0 0))]) hx hb d_13_12_68 hl (by decide) rfl (fun ls hl => ?_)
      exact b_Walker_slowed_70 X ih hf hZ hS (lv_sub hl [0, 1, 2, 3] rfl)

def f_Walker_slowed_20 (rec4 : Int → Int → Int → zF → zB → zO) (K : zK) : Nat → Int → Int → Int → Int → zF → zB → zO
  | 0, _, _, _, _, _, _ => none
  | n + 1, l4, l3, l2, l0, F, B => if r32 l4 then (if 0 ≤ l4 then rec4 (l3 + 1) l2 l0 F B else if 0 ≤ l3 ∧ l3 < ztl 6 then if ¬ iI (ztv 6 l3) = 0 then if r32 (zrm l2 (ztv 6 l3)) then (if (zrm l2 (ztv 6 l3)) = 0 then f_Walker_slowed_20 rec4 K n (l4 + 1) l3 (zdv l2 (ztv 6 l3)) l0 F B else some ((-1), F, B)) else none else none else none) else none
set_option maxHeartbeats 4000000 in
set_option maxRecDepth 100000 in
theorem b_Walker_slowed_20 {D : va_G} {ca : Nat → ClassId} {ad : Nat → Int → Nat → Nat} {L : List Nat} {aS vS : Nat → Nat} {A : Nat → Prop} {p : Program} {l : Launch} {e : Env} {s : State} {m : MethodId} {args : Array Value} {below : List Frame} {meth : Method} {c : Code} {K : zK} {r : Int} {F9 : zF} {B9 : zB} (X : zX D ca L aS vS A p s m args meth c prog_13_method_12_code 5 (Option.some Jvm.ClassFile.FieldType.int) "StaveHouse$Walker") {rec4 : Int → Int → Int → zF → zB → zO} (hrec4 : ∀ {l3 : Int} {l2 : Int} {l0 : Int} {F : zF} {B : zB} {H : Heap} {locs : List Loc} {ls : Array Slot}, rec4 l3 l2 l0 F B = some (r, F9, B9) → zH D ca ad lnC K.2 L F B A H → va_S A s.heap H locs → lv_has ls 5 [(3, .int (iI l3)), (2, .int (iI l2)), (0, .ref (ad 11 l0 0))] → W p l e ({ frames := 0, cells := 0, slots := 0, locals := 0 } : Room) s m args below meth c H locs 0 0 (MQ below (Q_Walker_slowed K D ca ad L r F9 B9 A) args s 0 0 A) (F0 m 4 ls [])) : ∀ {n : Nat} {l4 : Int} {l3 : Int} {l2 : Int} {l0 : Int} {F : zF} {B : zB} {H : Heap} {locs : List Loc} {ls : Array Slot}, f_Walker_slowed_20 rec4 K n l4 l3 l2 l0 F B = some (r, F9, B9) → zH D ca ad lnC K.2 L F B A H → va_S A s.heap H locs → lv_has ls 5 [(4, .int (iI l4)), (3, .int (iI l3)), (2, .int (iI l2)), (0, .ref (ad 11 l0 0))] → W p l e ({ frames := 0, cells := 0, slots := 0, locals := 0 } : Room) s m args below meth c H locs 0 0 (MQ below (Q_Walker_slowed K D ca ad L r F9 B9 A) args s 0 0 A) (F0 m 20 ls []) := by
  obtain ⟨hx, hb, hr, hml, hown, hts, hlk, hK, hA, hL, hX⟩ := id X
  intro n
  induction n with
  | zero =>
    intros
    rename_i hf _ _ _
    cases hf
  | succ n ih =>
    intro l4 l3 l2 l0 F B H locs ls hf hZ hS hl
    replace hf : (if r32 l4 then (if 0 ≤ l4 then rec4 (l3 + 1) l2 l0 F B else if 0 ≤ l3 ∧ l3 < ztl 6 then if ¬ iI (ztv 6 l3) = 0 then if r32 (zrm l2 (ztv 6 l3)) then (if (zrm l2 (ztv 6 l3)) = 0 then f_Walker_slowed_20 rec4 K n (l4 + 1) l3 (zdv l2 (ztv 6 l3)) l0 F B else some ((-1), F, B)) else none else none else none) else none) = some (r, F9, B9) := hf
    refine lv_iload hx hb d_13_12_20 (lv_at hl 0 rfl) ?_
    obtain ⟨g6, hf⟩ := gif hf
    refine z0ge (tgt := 51) hx hb g6 d_13_12_22 (by decide) (fun h7 => ?_) (fun h7 => ?_)
    · replace hf := gpos hf h7
      refine lv_iinc (v := iI (l3 + 1)) (lv' := [(3, .int (iI (l3 + 1))), (4, .int (iI l4)), (2, .int (iI l2)), (0, .ref (ad 11 l0 0))]) hx hb d_13_12_51 hl (k := 1) rfl (iI_add _ 1) (by decide) rfl (fun ls hl => ?_)
      refine lv_goto (tgt := 4) hx hb d_13_12_54 (by decide) ?_
      exact hrec4 hf hZ hS (lv_sub hl [0, 2, 3] rfl)
    · replace hf := gneg hf h7
      refine lv_iload_n hx hb d_13_12_25 rfl (lv_at hl 2 rfl) ?_
      refine va_gets hx hb (hX.2.2.2.2.2.2 6 _ rfl).1 hS hown (hts _ k_4_220) (fun _ h => h) d_13_12_26 ?_
      refine W.eq (g2 := F0 m 29 ls [.ref (vS (1000 + 6)), .int (iI l2)]) rfl ?_
      refine lv_iload_n hx hb d_13_12_29 rfl (lv_at hl 1 rfl) ?_
      obtain ⟨g8, hf⟩ := gif hf
      refine va_ti (v := .int (iI (ztv 6 l3))) hx hb (ztI hX (by decide) (by decide)) hS (zt_in (by decide) g8) (ztI_v (by decide) g8) d_13_12_30 ?_
      obtain ⟨g9, hf⟩ := gif hf
      refine zrm_r hx hb g9 d_13_12_31 ?_
      obtain ⟨g10, hf⟩ := gif hf
      refine z0eq (tgt := 37) hx hb g10 d_13_12_32 (by decide) (fun h11 => ?_) (fun h11 => ?_)
      · replace hf := gpos hf h11
        refine lv_iload_n hx hb d_13_12_37 rfl (lv_at hl 2 rfl) ?_
        refine va_gets hx hb (hX.2.2.2.2.2.2 6 _ rfl).1 hS hown (hts _ k_4_220) (fun _ h => h) d_13_12_38 ?_
        refine W.eq (g2 := F0 m 41 ls [.ref (vS (1000 + 6)), .int (iI l2)]) rfl ?_
        refine lv_iload_n hx hb d_13_12_41 rfl (lv_at hl 1 rfl) ?_
        refine va_ti (v := .int (iI (ztv 6 l3))) hx hb (ztI hX (by decide) (by decide)) hS (zt_in (by decide) g8) (ztI_v (by decide) g8) d_13_12_42 ?_
        refine zdv_r hx hb g9 d_13_12_43 ?_
        refine lv_istore_n (lv' := [(2, .int (iI (zdv l2 (ztv 6 l3)))), (4, .int (iI l4)), (3, .int (iI l3)), (0, .ref (ad 11 l0 0))]) hx hb d_13_12_44 rfl hl (by decide) rfl (fun ls hl => ?_)
        refine lv_iinc (v := iI (l4 + 1)) (lv' := [(4, .int (iI (l4 + 1))), (2, .int (iI (zdv l2 (ztv 6 l3)))), (3, .int (iI l3)), (0, .ref (ad 11 l0 0))]) hx hb d_13_12_45 hl (k := 1) rfl (iI_add _ 1) (by decide) rfl (fun ls hl => ?_)
        refine lv_goto (tgt := 20) hx hb d_13_12_48 (by decide) ?_
        exact ih hf hZ hS (lv_sub hl [0, 2, 1, 3] rfl)
      · replace hf := gneg hf h11
        refine lv_iconst (v := iI (-1)) hx hb d_13_12_35 rfl ?_
        cases hf
        exact W.iret hx hb hr (fun t ht hW => ⟨⟨_, (), rfl, rfl, by rw [ht]; exact hZ, va_K.moved hW.alike hK⟩, hS.F ht⟩) hS.2.2 d_13_12_36 hlk

def f_Walker_slowed_4 (K : zK) : Nat → Int → Int → Int → zF → zB → zO
  | 0, _, _, _, _, _ => none
  | n + 1, l3, l2, l0, F, B => if r32 l3 then if r32 (ztl 6) then (if (ztl 6) ≤ l3 then f_Walker_slowed_59 K K.1 0 l2 l0 F B else if 0 ≤ l0 ∧ l0 < K.2 11 then if 0 ≤ l3 ∧ l3 < 4 then f_Walker_slowed_20 (f_Walker_slowed_4 K n) K K.1 (B 11 l0 14 l3) l3 l2 l0 F B else none else none) else none else none
set_option maxHeartbeats 4000000 in
set_option maxRecDepth 100000 in
theorem b_Walker_slowed_4 {D : va_G} {ca : Nat → ClassId} {ad : Nat → Int → Nat → Nat} {L : List Nat} {aS vS : Nat → Nat} {A : Nat → Prop} {p : Program} {l : Launch} {e : Env} {s : State} {m : MethodId} {args : Array Value} {below : List Frame} {meth : Method} {c : Code} {K : zK} {r : Int} {F9 : zF} {B9 : zB} (X : zX D ca L aS vS A p s m args meth c prog_13_method_12_code 5 (Option.some Jvm.ClassFile.FieldType.int) "StaveHouse$Walker") : ∀ {n : Nat} {l3 : Int} {l2 : Int} {l0 : Int} {F : zF} {B : zB} {H : Heap} {locs : List Loc} {ls : Array Slot}, f_Walker_slowed_4 K n l3 l2 l0 F B = some (r, F9, B9) → zH D ca ad lnC K.2 L F B A H → va_S A s.heap H locs → lv_has ls 5 [(3, .int (iI l3)), (2, .int (iI l2)), (0, .ref (ad 11 l0 0))] → W p l e ({ frames := 0, cells := 0, slots := 0, locals := 0 } : Room) s m args below meth c H locs 0 0 (MQ below (Q_Walker_slowed K D ca ad L r F9 B9 A) args s 0 0 A) (F0 m 4 ls []) := by
  obtain ⟨hx, hb, hr, hml, hown, hts, hlk, hK, hA, hL, hX⟩ := id X
  intro n
  induction n with
  | zero =>
    intros
    rename_i hf _ _ _
    cases hf
  | succ n ih =>
    intro l3 l2 l0 F B H locs ls hf hZ hS hl
    replace hf : (if r32 l3 then if r32 (ztl 6) then (if (ztl 6) ≤ l3 then f_Walker_slowed_59 K K.1 0 l2 l0 F B else if 0 ≤ l0 ∧ l0 < K.2 11 then if 0 ≤ l3 ∧ l3 < 4 then f_Walker_slowed_20 (f_Walker_slowed_4 K n) K K.1 (B 11 l0 14 l3) l3 l2 l0 F B else none else none) else none else none) = some (r, F9, B9) := hf
    refine lv_iload_n hx hb d_13_12_4 rfl (lv_at hl 0 rfl) ?_
    refine va_gets hx hb (hX.2.2.2.2.2.2 6 _ rfl).1 hS hown (hts _ k_4_220) (fun _ h => h) d_13_12_5 ?_
    refine W.eq (g2 := F0 m 8 ls [.ref (vS (1000 + 6)), .int (iI l3)]) rfl ?_
    refine va_tlen (v := iI (ztl 6)) hx hb (ztT hX (by decide)) hS (ztl_n _) d_13_12_8 ?_
    obtain ⟨g1, hf⟩ := gif hf
    obtain ⟨g2, hf⟩ := gif hf
    refine zge (tgt := 57) hx hb g1 g2 d_13_12_9 (by decide) (fun h3 => ?_) (fun h3 => ?_)
    · replace hf := gpos hf h3
      refine lv_iconst (v := iI 0) hx hb d_13_12_57 rfl ?_
      refine lv_istore_n (lv' := [(3, .int (iI 0)), (2, .int (iI l2)), (0, .ref (ad 11 l0 0))]) hx hb d_13_12_58 rfl hl (by decide) rfl (fun ls hl => ?_)
      exact b_Walker_slowed_59 X hf hZ hS (lv_sub hl [0, 1, 2] rfl)
    · replace hf := gneg hf h3
      refine lv_aload_n hx hb d_13_12_12 rfl (lv_at hl 2 rfl) ?_
      obtain ⟨g4, hf⟩ := gif hf
      refine zget (ci := 11) (C := RX11) (T := TX11) (v := .ref (ad 11 l0 (14 + 1))) (k := 14) hx hb hts inW_11 hown hK hZ g4.1 g4.2 rfl (by decide) k_1_204 rfl d_13_12_13 ?_
      refine lv_iload_n hx hb d_13_12_16 rfl (lv_at hl 0 rfl) ?_
      obtain ⟨g5, hf⟩ := gif hf
      refine zald (ci := 11) (k := 14) hx hb hK rfl hZ g4.1 g4.2 rfl (Nat.le_of_ble_eq_true rfl) g5.1 g5.2 d_13_12_17 ?_
      refine lv_istore (lv' := [(4, .int (iI (B 11 l0 14 l3))), (3, .int (iI l3)), (2, .int (iI l2)), (0, .ref (ad 11 l0 0))]) hx hb d_13_12_18 hl (by decide) rfl (fun ls hl => ?_)
      exact b_Walker_slowed_20 X ih hf hZ hS (lv_sub hl [0, 1, 2, 3] rfl)

def f_Walker_slowed (K : zK) (l0 : Int) (l1 : Int) (F : zF) (B : zB) : zO := f_Walker_slowed_4 K K.1 0 l1 l0 F B
set_option maxHeartbeats 4000000 in
set_option maxRecDepth 100000 in
theorem c_Walker_slowed {l : Launch} {D : va_G} {ca : Nat → ClassId} {ad : Nat → Int → Nat → Nat} {L : List Nat} {aS vS : Nat → Nat} {sz : Nat} {K : zK}  {l0 : Int} {l1 : Int} {F F9 : zF} {B B9 : zB} {r : Int} (hf : f_Walker_slowed K l0 l1 F B = some (r, F9, B9)) : Met l ({ cls := "StaveHouse$Walker", name := "slowed", desc := "(I)I" } : Jvm.MethodName) (Cond.code ({ cls := "StaveHouse$Walker", name := "slowed", desc := "(I)I" } : Jvm.MethodName) prog_13_method_12_code 5 (Option.some Jvm.ClassFile.FieldType.int) :: wAll) ({ frames := 0, cells := 0, slots := 0, locals := 0 } : Room) (va_Pc [.ref (ad 11 l0 0), .int (iI l1)] (zPre D ca ad lnC K.2 L aS vS F B sz)) (Q_Walker_slowed K D ca ad L r F9 B9 (zA L sz)) 0 0 (zA L sz) := by
  refine zMet (Qc := Q_Walker_slowed K D ca ad L r F9 B9) (lv := [(0, .ref (ad 11 l0 0)), (1, .int (iI l1))]) (by decide) (Nat.le_of_ble_eq_true rfl) rfl (fun A p e s m below meth c ls X hZ hS hl => ?_)
  obtain ⟨hx, hb, hr, hml, hown, hts, hlk, hK, hA, hL, hX⟩ := id X
  replace hf : (f_Walker_slowed_4 K K.1 0 l1 l0 F B) = some (r, F9, B9) := hf
  refine lv_iload_n hx hb d_13_12_0 rfl (lv_at hl 1 rfl) ?_
  refine lv_istore_n (lv' := [(2, .int (iI l1)), (0, .ref (ad 11 l0 0)), (1, .int (iI l1))]) hx hb d_13_12_1 rfl hl (by decide) rfl (fun ls hl => ?_)
  refine lv_iconst (v := iI 0) hx hb d_13_12_2 rfl ?_
  refine lv_istore_n (lv' := [(3, .int (iI 0)), (2, .int (iI l1)), (0, .ref (ad 11 l0 0)), (1, .int (iI l1))]) hx hb d_13_12_3 rfl hl (by decide) rfl (fun ls hl => ?_)
  exact b_Walker_slowed_4 X hf hZ hS (lv_sub hl [0, 1, 2] rfl)

abbrev Q_Event_insert (K : zK) (D : va_G) (ca : Nat → ClassId) (ad : Nat → Int → Nat → Nat) (L : List Nat) (r : Int) (F : zF) (B : zB) (A : Nat → Prop) : Array Value → State → Outcome → State → Prop := va_Qi (S := Unit) (fun p _ => p = iI r) (fun _ => zPo D ca ad lnC K.2 L F B A) A
def f_Event_insert_75 (K : zK) : Nat → Int → Int → Int → Int → Int → zF → zB → zO
  | 0, _, _, _, _, _, _, _ => none
  | n + 1, l4, l3, l0, l1, l2, F, B => if r32 l4 then if r32 l3 then (if l4 ≤ l3 then if 0 ≤ l0 ∧ l0 < K.2 1 then if 0 ≤ l3 ∧ l3 < 6 then some (1, (zup3 F 1 l0 10 ((F 1 l0 10) + 1)), (zup4 (zup4 B 1 l0 12 l3 l1) 1 l0 13 l3 l2)) else none else none else if 0 ≤ l0 ∧ l0 < K.2 1 then if 0 ≤ (l4 - 1) ∧ (l4 - 1) < 6 then if 0 ≤ l4 ∧ l4 < 6 then f_Event_insert_75 K n (l4 - 1) l3 l0 l1 l2 F (zup4 (zup4 B 1 l0 12 l4 (B 1 l0 12 (l4 - 1))) 1 l0 13 l4 ((zup4 B 1 l0 12 l4 (B 1 l0 12 (l4 - 1))) 1 l0 13 (l4 - 1))) else none else none else none) else none else none
set_option maxHeartbeats 4000000 in
set_option maxRecDepth 100000 in
theorem b_Event_insert_75 {D : va_G} {ca : Nat → ClassId} {ad : Nat → Int → Nat → Nat} {L : List Nat} {aS vS : Nat → Nat} {A : Nat → Prop} {p : Program} {l : Launch} {e : Env} {s : State} {m : MethodId} {args : Array Value} {below : List Frame} {meth : Method} {c : Code} {K : zK} {r : Int} {F9 : zF} {B9 : zB} (X : zX D ca L aS vS A p s m args meth c prog_3_method_5_code 5 (Option.some Jvm.ClassFile.FieldType.boolean) "StaveHouse$Event") : ∀ {n : Nat} {l4 : Int} {l3 : Int} {l0 : Int} {l1 : Int} {l2 : Int} {F : zF} {B : zB} {H : Heap} {locs : List Loc} {ls : Array Slot}, f_Event_insert_75 K n l4 l3 l0 l1 l2 F B = some (r, F9, B9) → zH D ca ad lnC K.2 L F B A H → va_S A s.heap H locs → lv_has ls 5 [(4, .int (iI l4)), (3, .int (iI l3)), (0, .ref (ad 1 l0 0)), (1, .int (iI l1)), (2, .int (iI l2))] → W p l e ({ frames := 0, cells := 0, slots := 0, locals := 0 } : Room) s m args below meth c H locs 0 0 (MQ below (Q_Event_insert K D ca ad L r F9 B9 A) args s 0 0 A) (F0 m 75 ls []) := by
  obtain ⟨hx, hb, hr, hml, hown, hts, hlk, hK, hA, hL, hX⟩ := id X
  intro n
  induction n with
  | zero =>
    intros
    rename_i hf _ _ _
    cases hf
  | succ n ih =>
    intro l4 l3 l0 l1 l2 F B H locs ls hf hZ hS hl
    replace hf : (if r32 l4 then if r32 l3 then (if l4 ≤ l3 then if 0 ≤ l0 ∧ l0 < K.2 1 then if 0 ≤ l3 ∧ l3 < 6 then some (1, (zup3 F 1 l0 10 ((F 1 l0 10) + 1)), (zup4 (zup4 B 1 l0 12 l3 l1) 1 l0 13 l3 l2)) else none else none else if 0 ≤ l0 ∧ l0 < K.2 1 then if 0 ≤ (l4 - 1) ∧ (l4 - 1) < 6 then if 0 ≤ l4 ∧ l4 < 6 then f_Event_insert_75 K n (l4 - 1) l3 l0 l1 l2 F (zup4 (zup4 B 1 l0 12 l4 (B 1 l0 12 (l4 - 1))) 1 l0 13 l4 ((zup4 B 1 l0 12 l4 (B 1 l0 12 (l4 - 1))) 1 l0 13 (l4 - 1))) else none else none else none) else none else none) = some (r, F9, B9) := hf
    refine lv_iload hx hb d_3_5_75 (lv_at hl 0 rfl) ?_
    refine lv_iload_n hx hb d_3_5_77 rfl (lv_at hl 1 rfl) ?_
    obtain ⟨g20, hf⟩ := gif hf
    obtain ⟨g21, hf⟩ := gif hf
    refine zle (tgt := 119) hx hb g20 g21 d_3_5_78 (by decide) (fun h22 => ?_) (fun h22 => ?_)
    · replace hf := gpos hf h22
      refine lv_aload_n hx hb d_3_5_119 rfl (lv_at hl 2 rfl) ?_
      obtain ⟨g23, hf⟩ := gif hf
      refine zget (ci := 1) (C := RX1) (T := TX1) (v := .ref (ad 1 l0 (12 + 1))) (k := 12) hx hb hts inW_1 hown hK hZ g23.1 g23.2 rfl (by decide) k_2_57 rfl d_3_5_120 ?_
      refine lv_iload_n hx hb d_3_5_123 rfl (lv_at hl 1 rfl) ?_
      refine lv_iload_n hx hb d_3_5_124 rfl (lv_at hl 3 rfl) ?_
      obtain ⟨g24, hf⟩ := gif hf
      refine zast (ci := 1) (k := 12) hx hb hK rfl hZ hS g23.1 g23.2 rfl (Nat.le_of_ble_eq_true rfl) g24.1 g24.2 d_3_5_125 (fun H25 locs25 hZ25 hS25 => ?_)
      refine lv_aload_n hx hb d_3_5_126 rfl (lv_at hl 2 rfl) ?_
      refine zget (ci := 1) (C := RX1) (T := TX1) (v := .ref (ad 1 l0 (13 + 1))) (k := 13) hx hb hts inW_1 hown hK hZ25 g23.1 g23.2 rfl (by decide) k_2_63 rfl d_3_5_127 ?_
      refine lv_iload_n hx hb d_3_5_130 rfl (lv_at hl 1 rfl) ?_
      refine lv_iload_n hx hb d_3_5_131 rfl (lv_at hl 4 rfl) ?_
      refine zast (ci := 1) (k := 13) hx hb hK rfl hZ25 hS25 g23.1 g23.2 rfl (Nat.le_of_ble_eq_true rfl) g24.1 g24.2 d_3_5_132 (fun H26 locs26 hZ26 hS26 => ?_)
      refine lv_aload_n hx hb d_3_5_133 rfl (lv_at hl 2 rfl) ?_
      refine lv_dup hx hb d_3_5_134 rfl ?_
      refine zget (ci := 1) (C := RX1) (T := TX1) (v := .int (iI (F 1 l0 10))) (k := 10) hx hb hts inW_1 hown hK hZ26 g23.1 g23.2 rfl (by decide) k_2_48 rfl d_3_5_135 ?_
      refine lv_iconst (v := iI 1) hx hb d_3_5_138 rfl ?_
      refine zadd hx hb d_3_5_139 ?_
      refine zput (ci := 1) (C := RX1) (T := TX1) (k := 10) (v := ((F 1 l0 10) + 1)) (w := .int (iI ((F 1 l0 10) + 1))) hx hb hts inW_1 tyX1 tyX1_ok nmX1 hown hK hZ26 hS26 g23.1 g23.2 rfl (by decide) k_2_48 rfl (fun G h => congrArg (fun q => Value.int (iI q)) h) rfl rfl (zno (by decide)) d_3_5_140 (fun H27 locs27 hZ27 hS27 => ?_)
      refine lv_iconst (v := iI 1) hx hb d_3_5_143 rfl ?_
      cases hf
      exact W.zret hx hb hr rfl (fun t ht hW => ⟨⟨_, (), rfl, rfl, by rw [ht]; exact hZ27, va_K.moved hW.alike hK⟩, hS27.F ht⟩) hS27.2.2 d_3_5_144 hlk
    · replace hf := gneg hf h22
      refine lv_aload_n hx hb d_3_5_81 rfl (lv_at hl 2 rfl) ?_
      obtain ⟨g28, hf⟩ := gif hf
      refine zget (ci := 1) (C := RX1) (T := TX1) (v := .ref (ad 1 l0 (12 + 1))) (k := 12) hx hb hts inW_1 hown hK hZ g28.1 g28.2 rfl (by decide) k_2_57 rfl d_3_5_82 ?_
      refine lv_iload hx hb d_3_5_85 (lv_at hl 0 rfl) ?_
      refine lv_aload_n hx hb d_3_5_87 rfl (lv_at hl 2 rfl) ?_
      refine zget (ci := 1) (C := RX1) (T := TX1) (v := .ref (ad 1 l0 (12 + 1))) (k := 12) hx hb hts inW_1 hown hK hZ g28.1 g28.2 rfl (by decide) k_2_57 rfl d_3_5_88 ?_
      refine lv_iload hx hb d_3_5_91 (lv_at hl 0 rfl) ?_
      refine lv_iconst (v := iI 1) hx hb d_3_5_93 rfl ?_
      refine zsub hx hb d_3_5_94 ?_
      obtain ⟨g29, hf⟩ := gif hf
      refine zald (ci := 1) (k := 12) hx hb hK rfl hZ g28.1 g28.2 rfl (Nat.le_of_ble_eq_true rfl) g29.1 g29.2 d_3_5_95 ?_
      obtain ⟨g30, hf⟩ := gif hf
      refine zast (ci := 1) (k := 12) hx hb hK rfl hZ hS g28.1 g28.2 rfl (Nat.le_of_ble_eq_true rfl) g30.1 g30.2 d_3_5_96 (fun H31 locs31 hZ31 hS31 => ?_)
      refine lv_aload_n hx hb d_3_5_97 rfl (lv_at hl 2 rfl) ?_
      refine zget (ci := 1) (C := RX1) (T := TX1) (v := .ref (ad 1 l0 (13 + 1))) (k := 13) hx hb hts inW_1 hown hK hZ31 g28.1 g28.2 rfl (by decide) k_2_63 rfl d_3_5_98 ?_
      refine lv_iload hx hb d_3_5_101 (lv_at hl 0 rfl) ?_
      refine lv_aload_n hx hb d_3_5_103 rfl (lv_at hl 2 rfl) ?_
      refine zget (ci := 1) (C := RX1) (T := TX1) (v := .ref (ad 1 l0 (13 + 1))) (k := 13) hx hb hts inW_1 hown hK hZ31 g28.1 g28.2 rfl (by decide) k_2_63 rfl d_3_5_104 ?_
      refine lv_iload hx hb d_3_5_107 (lv_at hl 0 rfl) ?_
      refine lv_iconst (v := iI 1) hx hb d_3_5_109 rfl ?_
      refine zsub hx hb d_3_5_110 ?_
      refine zald (ci := 1) (k := 13) hx hb hK rfl hZ31 g28.1 g28.2 rfl (Nat.le_of_ble_eq_true rfl) g29.1 g29.2 d_3_5_111 ?_
      refine zast (ci := 1) (k := 13) hx hb hK rfl hZ31 hS31 g28.1 g28.2 rfl (Nat.le_of_ble_eq_true rfl) g30.1 g30.2 d_3_5_112 (fun H33 locs33 hZ33 hS33 => ?_)
      refine lv_iinc (v := iI (l4 - 1)) (lv' := [(4, .int (iI (l4 - 1))), (3, .int (iI l3)), (0, .ref (ad 1 l0 0)), (1, .int (iI l1)), (2, .int (iI l2))]) hx hb d_3_5_113 hl (k := 0) rfl (by rw [show Int32.ofInt (-1) = iI (-1) from rfl, iI_add]; congr 1) (by decide) rfl (fun ls hl => ?_)
      refine lv_goto (tgt := 75) hx hb d_3_5_116 (by decide) ?_
      exact ih hf hZ33 hS33 (lv_sub hl [0, 1, 2, 3, 4] rfl)

def f_Event_insert_69 (K : zK) (l3 : Int) (l0 : Int) (l1 : Int) (l2 : Int) (F : zF) (B : zB) : zO := if 0 ≤ l0 ∧ l0 < K.2 1 then f_Event_insert_75 K K.1 (F 1 l0 10) l3 l0 l1 l2 F B else none
set_option maxHeartbeats 4000000 in
set_option maxRecDepth 100000 in
theorem b_Event_insert_69 {D : va_G} {ca : Nat → ClassId} {ad : Nat → Int → Nat → Nat} {L : List Nat} {aS vS : Nat → Nat} {A : Nat → Prop} {p : Program} {l : Launch} {e : Env} {s : State} {m : MethodId} {args : Array Value} {below : List Frame} {meth : Method} {c : Code} {K : zK} {r : Int} {F9 : zF} {B9 : zB} (X : zX D ca L aS vS A p s m args meth c prog_3_method_5_code 5 (Option.some Jvm.ClassFile.FieldType.boolean) "StaveHouse$Event") {l3 : Int} {l0 : Int} {l1 : Int} {l2 : Int} {F : zF} {B : zB} {H : Heap} {locs : List Loc} {ls : Array Slot} (hf : f_Event_insert_69 K l3 l0 l1 l2 F B = some (r, F9, B9)) (hZ : zH D ca ad lnC K.2 L F B A H) (hS : va_S A s.heap H locs) (hl : lv_has ls 5 [(3, .int (iI l3)), (0, .ref (ad 1 l0 0)), (1, .int (iI l1)), (2, .int (iI l2))]) : W p l e ({ frames := 0, cells := 0, slots := 0, locals := 0 } : Room) s m args below meth c H locs 0 0 (MQ below (Q_Event_insert K D ca ad L r F9 B9 A) args s 0 0 A) (F0 m 69 ls []) := by
  obtain ⟨hx, hb, hr, hml, hown, hts, hlk, hK, hA, hL, hX⟩ := id X
  replace hf : (if 0 ≤ l0 ∧ l0 < K.2 1 then f_Event_insert_75 K K.1 (F 1 l0 10) l3 l0 l1 l2 F B else none) = some (r, F9, B9) := hf
  refine lv_aload_n hx hb d_3_5_69 rfl (lv_at hl 1 rfl) ?_
  obtain ⟨g19, hf⟩ := gif hf
  refine zget (ci := 1) (C := RX1) (T := TX1) (v := .int (iI (F 1 l0 10))) (k := 10) hx hb hts inW_1 hown hK hZ g19.1 g19.2 rfl (by decide) k_2_48 rfl d_3_5_70 ?_
  refine lv_istore (lv' := [(4, .int (iI (F 1 l0 10))), (3, .int (iI l3)), (0, .ref (ad 1 l0 0)), (1, .int (iI l1)), (2, .int (iI l2))]) hx hb d_3_5_73 hl (by decide) rfl (fun ls hl => ?_)
  exact b_Event_insert_75 X hf hZ hS (lv_sub hl [0, 1, 2, 3, 4] rfl)

def f_Event_insert_49 (K : zK) (l3 : Int) (l0 : Int) (l1 : Int) (l2 : Int) (F : zF) (B : zB) : zO := if 0 ≤ l0 ∧ l0 < K.2 1 then if r32 l3 then if r32 (F 1 l0 10) then (if (F 1 l0 10) ≤ l3 then f_Event_insert_69 K l3 l0 l1 l2 F B else if 0 ≤ l3 ∧ l3 < 6 then if r32 (B 1 l0 12 l3) then if r32 l1 then (if (B 1 l0 12 l3) = l1 then some (0, F, B) else f_Event_insert_69 K l3 l0 l1 l2 F B) else none else none else none) else none else none else none
set_option maxHeartbeats 4000000 in
set_option maxRecDepth 100000 in
theorem b_Event_insert_49 {D : va_G} {ca : Nat → ClassId} {ad : Nat → Int → Nat → Nat} {L : List Nat} {aS vS : Nat → Nat} {A : Nat → Prop} {p : Program} {l : Launch} {e : Env} {s : State} {m : MethodId} {args : Array Value} {below : List Frame} {meth : Method} {c : Code} {K : zK} {r : Int} {F9 : zF} {B9 : zB} (X : zX D ca L aS vS A p s m args meth c prog_3_method_5_code 5 (Option.some Jvm.ClassFile.FieldType.boolean) "StaveHouse$Event") {l3 : Int} {l0 : Int} {l1 : Int} {l2 : Int} {F : zF} {B : zB} {H : Heap} {locs : List Loc} {ls : Array Slot} (hf : f_Event_insert_49 K l3 l0 l1 l2 F B = some (r, F9, B9)) (hZ : zH D ca ad lnC K.2 L F B A H) (hS : va_S A s.heap H locs) (hl : lv_has ls 5 [(3, .int (iI l3)), (0, .ref (ad 1 l0 0)), (1, .int (iI l1)), (2, .int (iI l2))]) : W p l e ({ frames := 0, cells := 0, slots := 0, locals := 0 } : Room) s m args below meth c H locs 0 0 (MQ below (Q_Event_insert K D ca ad L r F9 B9 A) args s 0 0 A) (F0 m 49 ls []) := by
  obtain ⟨hx, hb, hr, hml, hown, hts, hlk, hK, hA, hL, hX⟩ := id X
  replace hf : (if 0 ≤ l0 ∧ l0 < K.2 1 then if r32 l3 then if r32 (F 1 l0 10) then (if (F 1 l0 10) ≤ l3 then f_Event_insert_69 K l3 l0 l1 l2 F B else if 0 ≤ l3 ∧ l3 < 6 then if r32 (B 1 l0 12 l3) then if r32 l1 then (if (B 1 l0 12 l3) = l1 then some (0, F, B) else f_Event_insert_69 K l3 l0 l1 l2 F B) else none else none else none) else none else none else none) = some (r, F9, B9) := hf
  refine lv_iload_n hx hb d_3_5_49 rfl (lv_at hl 0 rfl) ?_
  refine lv_aload_n hx hb d_3_5_50 rfl (lv_at hl 1 rfl) ?_
  obtain ⟨g11, hf⟩ := gif hf
  refine zget (ci := 1) (C := RX1) (T := TX1) (v := .int (iI (F 1 l0 10))) (k := 10) hx hb hts inW_1 hown hK hZ g11.1 g11.2 rfl (by decide) k_2_48 rfl d_3_5_51 ?_
  obtain ⟨g12, hf⟩ := gif hf
  obtain ⟨g13, hf⟩ := gif hf
  refine zge (tgt := 69) hx hb g12 g13 d_3_5_54 (by decide) (fun h14 => ?_) (fun h14 => ?_)
  · replace hf := gpos hf h14
    exact b_Event_insert_69 X hf hZ hS (lv_sub hl [0, 1, 2, 3] rfl)
  · replace hf := gneg hf h14
    refine lv_aload_n hx hb d_3_5_57 rfl (lv_at hl 1 rfl) ?_
    refine zget (ci := 1) (C := RX1) (T := TX1) (v := .ref (ad 1 l0 (12 + 1))) (k := 12) hx hb hts inW_1 hown hK hZ g11.1 g11.2 rfl (by decide) k_2_57 rfl d_3_5_58 ?_
    refine lv_iload_n hx hb d_3_5_61 rfl (lv_at hl 0 rfl) ?_
    obtain ⟨g15, hf⟩ := gif hf
    refine zald (ci := 1) (k := 12) hx hb hK rfl hZ g11.1 g11.2 rfl (Nat.le_of_ble_eq_true rfl) g15.1 g15.2 d_3_5_62 ?_
    refine lv_iload_n hx hb d_3_5_63 rfl (lv_at hl 2 rfl) ?_
    obtain ⟨g16, hf⟩ := gif hf
    obtain ⟨g17, hf⟩ := gif hf
    refine zne (tgt := 69) hx hb g16 g17 d_3_5_64 (by decide) (fun h18 => ?_) (fun h18 => ?_)
    · replace hf := gneg hf h18
      exact b_Event_insert_69 X hf hZ hS (lv_sub hl [0, 1, 2, 3] rfl)
    · replace hf := gpos hf h18
      refine lv_iconst (v := iI 0) hx hb d_3_5_67 rfl ?_
      cases hf
      exact W.zret hx hb hr rfl (fun t ht hW => ⟨⟨_, (), rfl, rfl, by rw [ht]; exact hZ, va_K.moved hW.alike hK⟩, hS.F ht⟩) hS.2.2 d_3_5_68 hlk

def f_Event_insert_24 (K : zK) : Nat → Int → Int → Int → Int → Int → zF → zB → zO
  | 0, _, _, _, _, _, _, _ => none
  | n + 1, l4, l3, l0, l1, l2, F, B => if r32 l4 then (if l4 < 0 then f_Event_insert_49 K l3 l0 l1 l2 F B else if 0 ≤ l0 ∧ l0 < K.2 1 then if 0 ≤ l4 ∧ l4 < 6 then if r32 (B 1 l0 12 l4) then if r32 l1 then (if (B 1 l0 12 l4) < l1 then f_Event_insert_49 K l3 l0 l1 l2 F B else f_Event_insert_24 K n (l4 - 1) l4 l0 l1 l2 F B) else none else none else none else none) else none
set_option maxHeartbeats 4000000 in
set_option maxRecDepth 100000 in
theorem b_Event_insert_24 {D : va_G} {ca : Nat → ClassId} {ad : Nat → Int → Nat → Nat} {L : List Nat} {aS vS : Nat → Nat} {A : Nat → Prop} {p : Program} {l : Launch} {e : Env} {s : State} {m : MethodId} {args : Array Value} {below : List Frame} {meth : Method} {c : Code} {K : zK} {r : Int} {F9 : zF} {B9 : zB} (X : zX D ca L aS vS A p s m args meth c prog_3_method_5_code 5 (Option.some Jvm.ClassFile.FieldType.boolean) "StaveHouse$Event") : ∀ {n : Nat} {l4 : Int} {l3 : Int} {l0 : Int} {l1 : Int} {l2 : Int} {F : zF} {B : zB} {H : Heap} {locs : List Loc} {ls : Array Slot}, f_Event_insert_24 K n l4 l3 l0 l1 l2 F B = some (r, F9, B9) → zH D ca ad lnC K.2 L F B A H → va_S A s.heap H locs → lv_has ls 5 [(4, .int (iI l4)), (3, .int (iI l3)), (0, .ref (ad 1 l0 0)), (1, .int (iI l1)), (2, .int (iI l2))] → W p l e ({ frames := 0, cells := 0, slots := 0, locals := 0 } : Room) s m args below meth c H locs 0 0 (MQ below (Q_Event_insert K D ca ad L r F9 B9 A) args s 0 0 A) (F0 m 24 ls []) := by
  obtain ⟨hx, hb, hr, hml, hown, hts, hlk, hK, hA, hL, hX⟩ := id X
  intro n
  induction n with
  | zero =>
    intros
    rename_i hf _ _ _
    cases hf
  | succ n ih =>
    intro l4 l3 l0 l1 l2 F B H locs ls hf hZ hS hl
    replace hf : (if r32 l4 then (if l4 < 0 then f_Event_insert_49 K l3 l0 l1 l2 F B else if 0 ≤ l0 ∧ l0 < K.2 1 then if 0 ≤ l4 ∧ l4 < 6 then if r32 (B 1 l0 12 l4) then if r32 l1 then (if (B 1 l0 12 l4) < l1 then f_Event_insert_49 K l3 l0 l1 l2 F B else f_Event_insert_24 K n (l4 - 1) l4 l0 l1 l2 F B) else none else none else none else none) else none) = some (r, F9, B9) := hf
    refine lv_iload hx hb d_3_5_24 (lv_at hl 0 rfl) ?_
    obtain ⟨g4, hf⟩ := gif hf
    refine z0lt (tgt := 49) hx hb g4 d_3_5_26 (by decide) (fun h5 => ?_) (fun h5 => ?_)
    · replace hf := gpos hf h5
      exact b_Event_insert_49 X hf hZ hS (lv_sub hl [1, 2, 3, 4] rfl)
    · replace hf := gneg hf h5
      refine lv_aload_n hx hb d_3_5_29 rfl (lv_at hl 2 rfl) ?_
      obtain ⟨g6, hf⟩ := gif hf
      refine zget (ci := 1) (C := RX1) (T := TX1) (v := .ref (ad 1 l0 (12 + 1))) (k := 12) hx hb hts inW_1 hown hK hZ g6.1 g6.2 rfl (by decide) k_2_57 rfl d_3_5_30 ?_
      refine lv_iload hx hb d_3_5_33 (lv_at hl 0 rfl) ?_
      obtain ⟨g7, hf⟩ := gif hf
      refine zald (ci := 1) (k := 12) hx hb hK rfl hZ g6.1 g6.2 rfl (Nat.le_of_ble_eq_true rfl) g7.1 g7.2 d_3_5_35 ?_
      refine lv_iload_n hx hb d_3_5_36 rfl (lv_at hl 3 rfl) ?_
      obtain ⟨g8, hf⟩ := gif hf
      obtain ⟨g9, hf⟩ := gif hf
      refine zlt (tgt := 49) hx hb g8 g9 d_3_5_37 (by decide) (fun h10 => ?_) (fun h10 => ?_)
      · replace hf := gpos hf h10
        exact b_Event_insert_49 X hf hZ hS (lv_sub hl [1, 2, 3, 4] rfl)
      · replace hf := gneg hf h10
        refine lv_iload hx hb d_3_5_40 (lv_at hl 0 rfl) ?_
        refine lv_istore_n (lv' := [(3, .int (iI l4)), (4, .int (iI l4)), (0, .ref (ad 1 l0 0)), (1, .int (iI l1)), (2, .int (iI l2))]) hx hb d_3_5_42 rfl hl (by decide) rfl (fun ls hl => ?_)
        refine lv_iinc (v := iI (l4 - 1)) (lv' := [(4, .int (iI (l4 - 1))), (3, .int (iI l4)), (0, .ref (ad 1 l0 0)), (1, .int (iI l1)), (2, .int (iI l2))]) hx hb d_3_5_43 hl (k := 1) rfl (by rw [show Int32.ofInt (-1) = iI (-1) from rfl, iI_add]; congr 1) (by decide) rfl (fun ls hl => ?_)
        refine lv_goto (tgt := 24) hx hb d_3_5_46 (by decide) ?_
        exact ih hf hZ hS (lv_sub hl [0, 1, 2, 3, 4] rfl)

def f_Event_insert (K : zK) (l0 : Int) (l1 : Int) (l2 : Int) (F : zF) (B : zB) : zO := if 0 ≤ l0 ∧ l0 < K.2 1 then if r32 (F 1 l0 10) then (if (F 1 l0 10) < 6 then f_Event_insert_24 K K.1 ((F 1 l0 10) - 1) (F 1 l0 10) l0 l1 l2 F B else some (0, F, B)) else none else none
set_option maxHeartbeats 4000000 in
set_option maxRecDepth 100000 in
theorem c_Event_insert {l : Launch} {D : va_G} {ca : Nat → ClassId} {ad : Nat → Int → Nat → Nat} {L : List Nat} {aS vS : Nat → Nat} {sz : Nat} {K : zK}  {l0 : Int} {l1 : Int} {l2 : Int} {F F9 : zF} {B B9 : zB} {r : Int} (hf : f_Event_insert K l0 l1 l2 F B = some (r, F9, B9)) : Met l ({ cls := "StaveHouse$Event", name := "insert", desc := "(II)Z" } : Jvm.MethodName) (Cond.code ({ cls := "StaveHouse$Event", name := "insert", desc := "(II)Z" } : Jvm.MethodName) prog_3_method_5_code 5 (Option.some Jvm.ClassFile.FieldType.boolean) :: wAll) ({ frames := 0, cells := 0, slots := 0, locals := 0 } : Room) (va_Pc [.ref (ad 1 l0 0), .int (iI l1), .int (iI l2)] (zPre D ca ad lnC K.2 L aS vS F B sz)) (Q_Event_insert K D ca ad L r F9 B9 (zA L sz)) 0 0 (zA L sz) := by
  refine zMet (Qc := Q_Event_insert K D ca ad L r F9 B9) (lv := [(0, .ref (ad 1 l0 0)), (1, .int (iI l1)), (2, .int (iI l2))]) (by decide) (Nat.le_of_ble_eq_true rfl) rfl (fun A p e s m below meth c ls X hZ hS hl => ?_)
  obtain ⟨hx, hb, hr, hml, hown, hts, hlk, hK, hA, hL, hX⟩ := id X
  replace hf : (if 0 ≤ l0 ∧ l0 < K.2 1 then if r32 (F 1 l0 10) then (if (F 1 l0 10) < 6 then f_Event_insert_24 K K.1 ((F 1 l0 10) - 1) (F 1 l0 10) l0 l1 l2 F B else some (0, F, B)) else none else none) = some (r, F9, B9) := hf
  refine lv_aload_n hx hb d_3_5_0 rfl (lv_at hl 0 rfl) ?_
  obtain ⟨g1, hf⟩ := gif hf
  refine zget (ci := 1) (C := RX1) (T := TX1) (v := .int (iI (F 1 l0 10))) (k := 10) hx hb hts inW_1 hown hK hZ g1.1 g1.2 rfl (by decide) k_2_48 rfl d_3_5_1 ?_
  refine lv_bipush (v := iI 6) hx hb d_3_5_4 (by decide) ?_
  obtain ⟨g2, hf⟩ := gif hf
  refine zlt (tgt := 11) hx hb g2 (by decide) d_3_5_6 (by decide) (fun h3 => ?_) (fun h3 => ?_)
  · replace hf := gpos hf h3
    refine lv_aload_n hx hb d_3_5_11 rfl (lv_at hl 0 rfl) ?_
    refine zget (ci := 1) (C := RX1) (T := TX1) (v := .int (iI (F 1 l0 10))) (k := 10) hx hb hts inW_1 hown hK hZ g1.1 g1.2 rfl (by decide) k_2_48 rfl d_3_5_12 ?_
    refine lv_istore_n (lv' := [(3, .int (iI (F 1 l0 10))), (0, .ref (ad 1 l0 0)), (1, .int (iI l1)), (2, .int (iI l2))]) hx hb d_3_5_15 rfl hl (by decide) rfl (fun ls hl => ?_)
    refine lv_aload_n hx hb d_3_5_16 rfl (lv_at hl 1 rfl) ?_
    refine zget (ci := 1) (C := RX1) (T := TX1) (v := .int (iI (F 1 l0 10))) (k := 10) hx hb hts inW_1 hown hK hZ g1.1 g1.2 rfl (by decide) k_2_48 rfl d_3_5_17 ?_
    refine lv_iconst (v := iI 1) hx hb d_3_5_20 rfl ?_
    refine zsub hx hb d_3_5_21 ?_
    refine lv_istore (lv' := [(4, .int (iI ((F 1 l0 10) - 1))), (3, .int (iI (F 1 l0 10))), (0, .ref (ad 1 l0 0)), (1, .int (iI l1)), (2, .int (iI l2))]) hx hb d_3_5_22 hl (by decide) rfl (fun ls hl => ?_)
    exact b_Event_insert_24 X hf hZ hS (lv_sub hl [0, 1, 2, 3, 4] rfl)
  · replace hf := gneg hf h3
    refine lv_iconst (v := iI 0) hx hb d_3_5_9 rfl ?_
    cases hf
    exact W.zret hx hb hr rfl (fun t ht hW => ⟨⟨_, (), rfl, rfl, by rw [ht]; exact hZ, va_K.moved hW.alike hK⟩, hS.F ht⟩) hS.2.2 d_3_5_10 hlk

abbrev Q_Event_has (K : zK) (D : va_G) (ca : Nat → ClassId) (ad : Nat → Int → Nat → Nat) (L : List Nat) (r : Int) (F : zF) (B : zB) (A : Nat → Prop) : Array Value → State → Outcome → State → Prop := va_Qi (S := Unit) (fun p _ => p = iI r) (fun _ => zPo D ca ad lnC K.2 L F B A) A
def f_Event_has_14 (K : zK) (s0 : Int) (F : zF) (B : zB) : zO := if (s0 = 0 ∨ s0 = 1) then some (s0, F, B) else none
set_option maxHeartbeats 4000000 in
set_option maxRecDepth 100000 in
theorem b_Event_has_14 {D : va_G} {ca : Nat → ClassId} {ad : Nat → Int → Nat → Nat} {L : List Nat} {aS vS : Nat → Nat} {A : Nat → Prop} {p : Program} {l : Launch} {e : Env} {s : State} {m : MethodId} {args : Array Value} {below : List Frame} {meth : Method} {c : Code} {K : zK} {r : Int} {F9 : zF} {B9 : zB} (X : zX D ca L aS vS A p s m args meth c prog_3_method_3_code 2 (Option.some Jvm.ClassFile.FieldType.boolean) "StaveHouse$Event") {s0 : Int} {F : zF} {B : zB} {H : Heap} {locs : List Loc} {ls : Array Slot} (hf : f_Event_has_14 K s0 F B = some (r, F9, B9)) (hZ : zH D ca ad lnC K.2 L F B A H) (hS : va_S A s.heap H locs) (hl : lv_has ls 2 []) : W p l e ({ frames := 0, cells := 0, slots := 0, locals := 0 } : Room) s m args below meth c H locs 0 0 (MQ below (Q_Event_has K D ca ad L r F9 B9 A) args s 0 0 A) (F0 m 14 ls [.int (iI s0)]) := by
  obtain ⟨hx, hb, hr, hml, hown, hts, hlk, hK, hA, hL, hX⟩ := id X
  replace hf : (if (s0 = 0 ∨ s0 = 1) then some (s0, F, B) else none) = some (r, F9, B9) := hf
  obtain ⟨g4, hf⟩ := gif hf
  cases hf
  exact W.zret hx hb hr (zbool g4) (fun t ht hW => ⟨⟨_, (), rfl, rfl, by rw [ht]; exact hZ, va_K.moved hW.alike hK⟩, hS.F ht⟩) hS.2.2 d_3_3_14 hlk

def f_Event_has (K : zK) (l0 : Int) (l1 : Int) (F : zF) (B : zB) : zO := if 0 ≤ l0 ∧ l0 < K.2 1 then if r32 (zand (F 1 l0 7) l1) then (if (zand (F 1 l0 7) l1) = 0 then f_Event_has_14 K 0 F B else f_Event_has_14 K 1 F B) else none else none
set_option maxHeartbeats 4000000 in
set_option maxRecDepth 100000 in
theorem c_Event_has {l : Launch} {D : va_G} {ca : Nat → ClassId} {ad : Nat → Int → Nat → Nat} {L : List Nat} {aS vS : Nat → Nat} {sz : Nat} {K : zK}  {l0 : Int} {l1 : Int} {F F9 : zF} {B B9 : zB} {r : Int} (hf : f_Event_has K l0 l1 F B = some (r, F9, B9)) : Met l ({ cls := "StaveHouse$Event", name := "has", desc := "(I)Z" } : Jvm.MethodName) (Cond.code ({ cls := "StaveHouse$Event", name := "has", desc := "(I)Z" } : Jvm.MethodName) prog_3_method_3_code 2 (Option.some Jvm.ClassFile.FieldType.boolean) :: wAll) ({ frames := 0, cells := 0, slots := 0, locals := 0 } : Room) (va_Pc [.ref (ad 1 l0 0), .int (iI l1)] (zPre D ca ad lnC K.2 L aS vS F B sz)) (Q_Event_has K D ca ad L r F9 B9 (zA L sz)) 0 0 (zA L sz) := by
  refine zMet (Qc := Q_Event_has K D ca ad L r F9 B9) (lv := [(0, .ref (ad 1 l0 0)), (1, .int (iI l1))]) (by decide) (Nat.le_of_ble_eq_true rfl) rfl (fun A p e s m below meth c ls X hZ hS hl => ?_)
  obtain ⟨hx, hb, hr, hml, hown, hts, hlk, hK, hA, hL, hX⟩ := id X
  replace hf : (if 0 ≤ l0 ∧ l0 < K.2 1 then if r32 (zand (F 1 l0 7) l1) then (if (zand (F 1 l0 7) l1) = 0 then f_Event_has_14 K 0 F B else f_Event_has_14 K 1 F B) else none else none) = some (r, F9, B9) := hf
  refine lv_aload_n hx hb d_3_3_0 rfl (lv_at hl 0 rfl) ?_
  obtain ⟨g1, hf⟩ := gif hf
  refine zget (ci := 1) (C := RX1) (T := TX1) (v := .int (iI (F 1 l0 7))) (k := 7) hx hb hts inW_1 hown hK hZ g1.1 g1.2 rfl (by decide) k_2_38 rfl d_3_3_1 ?_
  refine lv_iload_n hx hb d_3_3_4 rfl (lv_at hl 1 rfl) ?_
  refine zand_r hx hb d_3_3_5 ?_
  obtain ⟨g2, hf⟩ := gif hf
  refine z0eq (tgt := 13) hx hb g2 d_3_3_6 (by decide) (fun h3 => ?_) (fun h3 => ?_)
  · replace hf := gpos hf h3
    refine lv_iconst (v := iI 0) hx hb d_3_3_13 rfl ?_
    exact b_Event_has_14 X hf hZ hS (lv_sub hl [] rfl)
  · replace hf := gneg hf h3
    refine lv_iconst (v := iI 1) hx hb d_3_3_9 rfl ?_
    refine lv_goto (tgt := 14) hx hb d_3_3_10 (by decide) ?_
    exact b_Event_has_14 X hf hZ hS (lv_sub hl [] rfl)

abbrev Q_Walker_multiplySlow (K : zK) (D : va_G) (ca : Nat → ClassId) (ad : Nat → Int → Nat → Nat) (L : List Nat) (r : Int) (F : zF) (B : zB) (A : Nat → Prop) : Array Value → State → Outcome → State → Prop := va_Qv (S := Unit) (fun _ => True) (fun _ => zPo D ca ad lnC K.2 L F B A) A
def f_Walker_multiplySlow_60 (rec5 : Int → Int → Int → Int → zF → zB → zO) (K : zK) (l4 : Int) (l3 : Int) (l0 : Int) (l2 : Int) (F : zF) (B : zB) : zO := rec5 (l4 + 1) l3 l0 l2 F B
set_option maxHeartbeats 4000000 in
set_option maxRecDepth 100000 in
theorem b_Walker_multiplySlow_60 {D : va_G} {ca : Nat → ClassId} {ad : Nat → Int → Nat → Nat} {L : List Nat} {aS vS : Nat → Nat} {A : Nat → Prop} {p : Program} {l : Launch} {e : Env} {s : State} {m : MethodId} {args : Array Value} {below : List Frame} {meth : Method} {c : Code} {K : zK} {r : Int} {F9 : zF} {B9 : zB} (X : zX D ca L aS vS A p s m args meth c prog_13_method_11_code 6 (Option.none : Option Jvm.ClassFile.FieldType) "StaveHouse$Walker") {rec5 : Int → Int → Int → Int → zF → zB → zO} (hrec5 : ∀ {l4 : Int} {l3 : Int} {l0 : Int} {l2 : Int} {F : zF} {B : zB} {H : Heap} {locs : List Loc} {ls : Array Slot}, rec5 l4 l3 l0 l2 F B = some (r, F9, B9) → zH D ca ad lnC K.2 L F B A H → va_S A s.heap H locs → lv_has ls 6 [(4, .int (iI l4)), (3, .int (iI l3)), (0, .ref (ad 11 l0 0)), (2, .int (iI l2))] → W p l e ({ frames := 0, cells := 0, slots := 0, locals := 0 } : Room) s m args below meth c H locs 0 0 (MQ below (Q_Walker_multiplySlow K D ca ad L r F9 B9 A) args s 0 0 A) (F0 m 5 ls [])) {l4 : Int} {l3 : Int} {l0 : Int} {l2 : Int} {F : zF} {B : zB} {H : Heap} {locs : List Loc} {ls : Array Slot} (hf : f_Walker_multiplySlow_60 rec5 K l4 l3 l0 l2 F B = some (r, F9, B9)) (hZ : zH D ca ad lnC K.2 L F B A H) (hS : va_S A s.heap H locs) (hl : lv_has ls 6 [(4, .int (iI l4)), (3, .int (iI l3)), (0, .ref (ad 11 l0 0)), (2, .int (iI l2))]) : W p l e ({ frames := 0, cells := 0, slots := 0, locals := 0 } : Room) s m args below meth c H locs 0 0 (MQ below (Q_Walker_multiplySlow K D ca ad L r F9 B9 A) args s 0 0 A) (F0 m 60 ls []) := by
  obtain ⟨hx, hb, hr, hml, hown, hts, hlk, hK, hA, hL, hX⟩ := id X
  replace hf : (rec5 (l4 + 1) l3 l0 l2 F B) = some (r, F9, B9) := hf
  refine lv_iinc (v := iI (l4 + 1)) (lv' := [(4, .int (iI (l4 + 1))), (3, .int (iI l3)), (0, .ref (ad 11 l0 0)), (2, .int (iI l2))]) hx hb d_13_11_60 hl (k := 0) rfl (iI_add _ 1) (by decide) rfl (fun ls hl => ?_)
  refine lv_goto (tgt := 5) hx hb d_13_11_63 (by decide) ?_
  exact hrec5 hf hZ hS (lv_sub hl [0, 1, 2, 3] rfl)

def f_Walker_multiplySlow_17 (rec5 : Int → Int → Int → Int → zF → zB → zO) (K : zK) : Nat → Int → Int → Int → Int → Int → zF → zB → zO
  | 0, _, _, _, _, _, _, _ => none
  | n + 1, l5, l4, l3, l0, l2, F, B => if r32 l5 then (if 4 ≤ l5 then f_Walker_multiplySlow_60 rec5 K l4 l3 l0 l2 F B else if 0 ≤ l4 ∧ l4 < ztl 6 then if ¬ iI (ztv 6 l4) = 0 then if r32 (zrm l3 (ztv 6 l4)) then (if (zrm l3 (ztv 6 l4)) = 0 then if 0 ≤ l0 ∧ l0 < K.2 11 then if 0 ≤ l4 ∧ l4 < 4 then f_Walker_multiplySlow_17 rec5 K n (l5 + 1) l4 (zdv l3 (ztv 6 l4)) l0 l2 F (zup4 B 11 l0 14 l4 ((B 11 l0 14 l4) + l2)) else none else none else f_Walker_multiplySlow_60 rec5 K l4 l3 l0 l2 F B) else none else none else none) else none
set_option maxHeartbeats 4000000 in
set_option maxRecDepth 100000 in
theorem b_Walker_multiplySlow_17 {D : va_G} {ca : Nat → ClassId} {ad : Nat → Int → Nat → Nat} {L : List Nat} {aS vS : Nat → Nat} {A : Nat → Prop} {p : Program} {l : Launch} {e : Env} {s : State} {m : MethodId} {args : Array Value} {below : List Frame} {meth : Method} {c : Code} {K : zK} {r : Int} {F9 : zF} {B9 : zB} (X : zX D ca L aS vS A p s m args meth c prog_13_method_11_code 6 (Option.none : Option Jvm.ClassFile.FieldType) "StaveHouse$Walker") {rec5 : Int → Int → Int → Int → zF → zB → zO} (hrec5 : ∀ {l4 : Int} {l3 : Int} {l0 : Int} {l2 : Int} {F : zF} {B : zB} {H : Heap} {locs : List Loc} {ls : Array Slot}, rec5 l4 l3 l0 l2 F B = some (r, F9, B9) → zH D ca ad lnC K.2 L F B A H → va_S A s.heap H locs → lv_has ls 6 [(4, .int (iI l4)), (3, .int (iI l3)), (0, .ref (ad 11 l0 0)), (2, .int (iI l2))] → W p l e ({ frames := 0, cells := 0, slots := 0, locals := 0 } : Room) s m args below meth c H locs 0 0 (MQ below (Q_Walker_multiplySlow K D ca ad L r F9 B9 A) args s 0 0 A) (F0 m 5 ls [])) : ∀ {n : Nat} {l5 : Int} {l4 : Int} {l3 : Int} {l0 : Int} {l2 : Int} {F : zF} {B : zB} {H : Heap} {locs : List Loc} {ls : Array Slot}, f_Walker_multiplySlow_17 rec5 K n l5 l4 l3 l0 l2 F B = some (r, F9, B9) → zH D ca ad lnC K.2 L F B A H → va_S A s.heap H locs → lv_has ls 6 [(5, .int (iI l5)), (4, .int (iI l4)), (3, .int (iI l3)), (0, .ref (ad 11 l0 0)), (2, .int (iI l2))] → W p l e ({ frames := 0, cells := 0, slots := 0, locals := 0 } : Room) s m args below meth c H locs 0 0 (MQ below (Q_Walker_multiplySlow K D ca ad L r F9 B9 A) args s 0 0 A) (F0 m 17 ls []) := by
  obtain ⟨hx, hb, hr, hml, hown, hts, hlk, hK, hA, hL, hX⟩ := id X
  intro n
  induction n with
  | zero =>
    intros
    rename_i hf _ _ _
    cases hf
  | succ n ih =>
    intro l5 l4 l3 l0 l2 F B H locs ls hf hZ hS hl
    replace hf : (if r32 l5 then (if 4 ≤ l5 then f_Walker_multiplySlow_60 rec5 K l4 l3 l0 l2 F B else if 0 ≤ l4 ∧ l4 < ztl 6 then if ¬ iI (ztv 6 l4) = 0 then if r32 (zrm l3 (ztv 6 l4)) then (if (zrm l3 (ztv 6 l4)) = 0 then if 0 ≤ l0 ∧ l0 < K.2 11 then if 0 ≤ l4 ∧ l4 < 4 then f_Walker_multiplySlow_17 rec5 K n (l5 + 1) l4 (zdv l3 (ztv 6 l4)) l0 l2 F (zup4 B 11 l0 14 l4 ((B 11 l0 14 l4) + l2)) else none else none else f_Walker_multiplySlow_60 rec5 K l4 l3 l0 l2 F B) else none else none else none) else none) = some (r, F9, B9) := hf
    refine lv_iload hx hb d_13_11_17 (lv_at hl 0 rfl) ?_
    refine lv_iconst (v := iI 4) hx hb d_13_11_19 rfl ?_
    obtain ⟨g4, hf⟩ := gif hf
    refine zge (tgt := 60) hx hb g4 (by decide) d_13_11_20 (by decide) (fun h5 => ?_) (fun h5 => ?_)
    · replace hf := gpos hf h5
      exact b_Walker_multiplySlow_60 X hrec5 hf hZ hS (lv_sub hl [1, 2, 3, 4] rfl)
    · replace hf := gneg hf h5
      refine lv_iload_n hx hb d_13_11_23 rfl (lv_at hl 2 rfl) ?_
      refine va_gets hx hb (hX.2.2.2.2.2.2 6 _ rfl).1 hS hown (hts _ k_4_220) (fun _ h => h) d_13_11_24 ?_
      refine W.eq (g2 := F0 m 27 ls [.ref (vS (1000 + 6)), .int (iI l3)]) rfl ?_
      refine lv_iload hx hb d_13_11_27 (lv_at hl 1 rfl) ?_
      obtain ⟨g6, hf⟩ := gif hf
      refine va_ti (v := .int (iI (ztv 6 l4))) hx hb (ztI hX (by decide) (by decide)) hS (zt_in (by decide) g6) (ztI_v (by decide) g6) d_13_11_29 ?_
      obtain ⟨g7, hf⟩ := gif hf
      refine zrm_r hx hb g7 d_13_11_30 ?_
      obtain ⟨g8, hf⟩ := gif hf
      refine z0ne (tgt := 60) hx hb g8 d_13_11_31 (by decide) (fun h9 => ?_) (fun h9 => ?_)
      · replace hf := gneg hf h9
        exact b_Walker_multiplySlow_60 X hrec5 hf hZ hS (lv_sub hl [1, 2, 3, 4] rfl)
      · replace hf := gpos hf h9
        refine lv_iload_n hx hb d_13_11_34 rfl (lv_at hl 2 rfl) ?_
        refine va_gets hx hb (hX.2.2.2.2.2.2 6 _ rfl).1 hS hown (hts _ k_4_220) (fun _ h => h) d_13_11_35 ?_
        refine W.eq (g2 := F0 m 38 ls [.ref (vS (1000 + 6)), .int (iI l3)]) rfl ?_
        refine lv_iload hx hb d_13_11_38 (lv_at hl 1 rfl) ?_
        refine va_ti (v := .int (iI (ztv 6 l4))) hx hb (ztI hX (by decide) (by decide)) hS (zt_in (by decide) g6) (ztI_v (by decide) g6) d_13_11_40 ?_
        refine zdv_r hx hb g7 d_13_11_41 ?_
        refine lv_istore_n (lv' := [(3, .int (iI (zdv l3 (ztv 6 l4)))), (5, .int (iI l5)), (4, .int (iI l4)), (0, .ref (ad 11 l0 0)), (2, .int (iI l2))]) hx hb d_13_11_42 rfl hl (by decide) rfl (fun ls hl => ?_)
        refine lv_aload_n hx hb d_13_11_43 rfl (lv_at hl 3 rfl) ?_
        obtain ⟨g10, hf⟩ := gif hf
        refine zget (ci := 11) (C := RX11) (T := TX11) (v := .ref (ad 11 l0 (14 + 1))) (k := 14) hx hb hts inW_11 hown hK hZ g10.1 g10.2 rfl (by decide) k_1_204 rfl d_13_11_44 ?_
        refine lv_iload hx hb d_13_11_47 (lv_at hl 2 rfl) ?_
        refine lv_dup2_11 hx hb d_13_11_49 rfl rfl ?_
        obtain ⟨g11, hf⟩ := gif hf
        refine zald (ci := 11) (k := 14) hx hb hK rfl hZ g10.1 g10.2 rfl (Nat.le_of_ble_eq_true rfl) g11.1 g11.2 d_13_11_50 ?_
        refine lv_iload_n hx hb d_13_11_51 rfl (lv_at hl 4 rfl) ?_
        refine zadd hx hb d_13_11_52 ?_
        refine zast (ci := 11) (k := 14) hx hb hK rfl hZ hS g10.1 g10.2 rfl (Nat.le_of_ble_eq_true rfl) g11.1 g11.2 d_13_11_53 (fun H12 locs12 hZ12 hS12 => ?_)
        refine lv_iinc (v := iI (l5 + 1)) (lv' := [(5, .int (iI (l5 + 1))), (3, .int (iI (zdv l3 (ztv 6 l4)))), (4, .int (iI l4)), (0, .ref (ad 11 l0 0)), (2, .int (iI l2))]) hx hb d_13_11_54 hl (k := 1) rfl (iI_add _ 1) (by decide) rfl (fun ls hl => ?_)
        refine lv_goto (tgt := 17) hx hb d_13_11_57 (by decide) ?_
        exact ih hf hZ12 hS12 (lv_sub hl [0, 2, 1, 3, 4] rfl)

def f_Walker_multiplySlow_5 (K : zK) : Nat → Int → Int → Int → Int → zF → zB → zO
  | 0, _, _, _, _, _, _ => none
  | n + 1, l4, l3, l0, l2, F, B => if r32 l4 then if r32 (ztl 6) then (if (ztl 6) ≤ l4 then some (0, F, B) else f_Walker_multiplySlow_17 (f_Walker_multiplySlow_5 K n) K K.1 0 l4 l3 l0 l2 F B) else none else none
set_option maxHeartbeats 4000000 in
set_option maxRecDepth 100000 in
theorem b_Walker_multiplySlow_5 {D : va_G} {ca : Nat → ClassId} {ad : Nat → Int → Nat → Nat} {L : List Nat} {aS vS : Nat → Nat} {A : Nat → Prop} {p : Program} {l : Launch} {e : Env} {s : State} {m : MethodId} {args : Array Value} {below : List Frame} {meth : Method} {c : Code} {K : zK} {r : Int} {F9 : zF} {B9 : zB} (X : zX D ca L aS vS A p s m args meth c prog_13_method_11_code 6 (Option.none : Option Jvm.ClassFile.FieldType) "StaveHouse$Walker") : ∀ {n : Nat} {l4 : Int} {l3 : Int} {l0 : Int} {l2 : Int} {F : zF} {B : zB} {H : Heap} {locs : List Loc} {ls : Array Slot}, f_Walker_multiplySlow_5 K n l4 l3 l0 l2 F B = some (r, F9, B9) → zH D ca ad lnC K.2 L F B A H → va_S A s.heap H locs → lv_has ls 6 [(4, .int (iI l4)), (3, .int (iI l3)), (0, .ref (ad 11 l0 0)), (2, .int (iI l2))] → W p l e ({ frames := 0, cells := 0, slots := 0, locals := 0 } : Room) s m args below meth c H locs 0 0 (MQ below (Q_Walker_multiplySlow K D ca ad L r F9 B9 A) args s 0 0 A) (F0 m 5 ls []) := by
  obtain ⟨hx, hb, hr, hml, hown, hts, hlk, hK, hA, hL, hX⟩ := id X
  intro n
  induction n with
  | zero =>
    intros
    rename_i hf _ _ _
    cases hf
  | succ n ih =>
    intro l4 l3 l0 l2 F B H locs ls hf hZ hS hl
    replace hf : (if r32 l4 then if r32 (ztl 6) then (if (ztl 6) ≤ l4 then some (0, F, B) else f_Walker_multiplySlow_17 (f_Walker_multiplySlow_5 K n) K K.1 0 l4 l3 l0 l2 F B) else none else none) = some (r, F9, B9) := hf
    refine lv_iload hx hb d_13_11_5 (lv_at hl 0 rfl) ?_
    refine va_gets hx hb (hX.2.2.2.2.2.2 6 _ rfl).1 hS hown (hts _ k_4_220) (fun _ h => h) d_13_11_7 ?_
    refine W.eq (g2 := F0 m 10 ls [.ref (vS (1000 + 6)), .int (iI l4)]) rfl ?_
    refine va_tlen (v := iI (ztl 6)) hx hb (ztT hX (by decide)) hS (ztl_n _) d_13_11_10 ?_
    obtain ⟨g1, hf⟩ := gif hf
    obtain ⟨g2, hf⟩ := gif hf
    refine zge (tgt := 66) hx hb g1 g2 d_13_11_11 (by decide) (fun h3 => ?_) (fun h3 => ?_)
    · replace hf := gpos hf h3
      cases hf
      exact W.vret hx hb hr (fun t ht hW => ⟨⟨(), rfl, trivial, by rw [ht]; exact hZ, va_K.moved hW.alike hK⟩, hS.F ht⟩) hS.2.2 d_13_11_66 hlk
    · replace hf := gneg hf h3
      refine lv_iconst (v := iI 0) hx hb d_13_11_14 rfl ?_
      refine lv_istore (lv' := [(5, .int (iI 0)), (4, .int (iI l4)), (3, .int (iI l3)), (0, .ref (ad 11 l0 0)), (2, .int (iI l2))]) hx hb d_13_11_15 hl (by decide) rfl (fun ls hl => ?_)
      exact b_Walker_multiplySlow_17 X ih hf hZ hS (lv_sub hl [0, 1, 2, 3, 4] rfl)

def f_Walker_multiplySlow (K : zK) (l0 : Int) (l1 : Int) (l2 : Int) (F : zF) (B : zB) : zO := f_Walker_multiplySlow_5 K K.1 0 l1 l0 l2 F B
set_option maxHeartbeats 4000000 in
set_option maxRecDepth 100000 in
theorem c_Walker_multiplySlow {l : Launch} {D : va_G} {ca : Nat → ClassId} {ad : Nat → Int → Nat → Nat} {L : List Nat} {aS vS : Nat → Nat} {sz : Nat} {K : zK}  {l0 : Int} {l1 : Int} {l2 : Int} {F F9 : zF} {B B9 : zB} {r : Int} (hf : f_Walker_multiplySlow K l0 l1 l2 F B = some (r, F9, B9)) : Met l ({ cls := "StaveHouse$Walker", name := "multiplySlow", desc := "(II)V" } : Jvm.MethodName) (Cond.code ({ cls := "StaveHouse$Walker", name := "multiplySlow", desc := "(II)V" } : Jvm.MethodName) prog_13_method_11_code 6 (Option.none : Option Jvm.ClassFile.FieldType) :: wAll) ({ frames := 0, cells := 0, slots := 0, locals := 0 } : Room) (va_Pc [.ref (ad 11 l0 0), .int (iI l1), .int (iI l2)] (zPre D ca ad lnC K.2 L aS vS F B sz)) (Q_Walker_multiplySlow K D ca ad L r F9 B9 (zA L sz)) 0 0 (zA L sz) := by
  refine zMet (Qc := Q_Walker_multiplySlow K D ca ad L r F9 B9) (lv := [(0, .ref (ad 11 l0 0)), (1, .int (iI l1)), (2, .int (iI l2))]) (by decide) (Nat.le_of_ble_eq_true rfl) rfl (fun A p e s m below meth c ls X hZ hS hl => ?_)
  obtain ⟨hx, hb, hr, hml, hown, hts, hlk, hK, hA, hL, hX⟩ := id X
  replace hf : (f_Walker_multiplySlow_5 K K.1 0 l1 l0 l2 F B) = some (r, F9, B9) := hf
  refine lv_iload_n hx hb d_13_11_0 rfl (lv_at hl 1 rfl) ?_
  refine lv_istore_n (lv' := [(3, .int (iI l1)), (0, .ref (ad 11 l0 0)), (1, .int (iI l1)), (2, .int (iI l2))]) hx hb d_13_11_1 rfl hl (by decide) rfl (fun ls hl => ?_)
  refine lv_iconst (v := iI 0) hx hb d_13_11_2 rfl ?_
  refine lv_istore (lv' := [(4, .int (iI 0)), (3, .int (iI l1)), (0, .ref (ad 11 l0 0)), (1, .int (iI l1)), (2, .int (iI l2))]) hx hb d_13_11_3 hl (by decide) rfl (fun ls hl => ?_)
  exact b_Walker_multiplySlow_5 X hf hZ hS (lv_sub hl [0, 1, 2, 4] rfl)

abbrev Q_Part_placeEvents (K : zK) (D : va_G) (ca : Nat → ClassId) (ad : Nat → Int → Nat → Nat) (L : List Nat) (r : Int) (F : zF) (B : zB) (A : Nat → Prop) : Array Value → State → Outcome → State → Prop := va_Qv (S := Unit) (fun _ => True) (fun _ => zPo D ca ad lnC K.2 L F B A) A
def f_Part_placeEvents_7 (K : zK) : Nat → Int → Int → zF → zB → zO
  | 0, _, _, _, _ => none
  | n + 1, l1, l0, F, B => if 0 ≤ l0 ∧ l0 < K.2 4 then if r32 l1 then if r32 (F 4 l0 6) then (if (F 4 l0 6) ≤ l1 then some (0, F, B) else if 0 ≤ l1 ∧ l1 < 200 then if 0 ≤ (B 4 l0 5 l1) ∧ (B 4 l0 5 l1) < K.2 1 then f_Part_placeEvents_7 K n (l1 + 1) l0 (zup3 (zup3 F 1 (B 4 l0 5 l1) 0 (F 4 l0 7)) 4 l0 7 ((F 4 l0 7) + (F 1 (B 4 l0 5 l1) 1))) B else none else none) else none else none else none
set_option maxHeartbeats 4000000 in
set_option maxRecDepth 100000 in
theorem b_Part_placeEvents_7 {D : va_G} {ca : Nat → ClassId} {ad : Nat → Int → Nat → Nat} {L : List Nat} {aS vS : Nat → Nat} {A : Nat → Prop} {p : Program} {l : Launch} {e : Env} {s : State} {m : MethodId} {args : Array Value} {below : List Frame} {meth : Method} {c : Code} {K : zK} {r : Int} {F9 : zF} {B9 : zB} (X : zX D ca L aS vS A p s m args meth c prog_6_method_5_code 2 (Option.none : Option Jvm.ClassFile.FieldType) "StaveHouse$Part") : ∀ {n : Nat} {l1 : Int} {l0 : Int} {F : zF} {B : zB} {H : Heap} {locs : List Loc} {ls : Array Slot}, f_Part_placeEvents_7 K n l1 l0 F B = some (r, F9, B9) → zH D ca ad lnC K.2 L F B A H → va_S A s.heap H locs → lv_has ls 2 [(1, .int (iI l1)), (0, .ref (ad 4 l0 0))] → W p l e ({ frames := 0, cells := 0, slots := 0, locals := 0 } : Room) s m args below meth c H locs 0 0 (MQ below (Q_Part_placeEvents K D ca ad L r F9 B9 A) args s 0 0 A) (F0 m 7 ls []) := by
  obtain ⟨hx, hb, hr, hml, hown, hts, hlk, hK, hA, hL, hX⟩ := id X
  intro n
  induction n with
  | zero =>
    intros
    rename_i hf _ _ _
    cases hf
  | succ n ih =>
    intro l1 l0 F B H locs ls hf hZ hS hl
    replace hf : (if 0 ≤ l0 ∧ l0 < K.2 4 then if r32 l1 then if r32 (F 4 l0 6) then (if (F 4 l0 6) ≤ l1 then some (0, F, B) else if 0 ≤ l1 ∧ l1 < 200 then if 0 ≤ (B 4 l0 5 l1) ∧ (B 4 l0 5 l1) < K.2 1 then f_Part_placeEvents_7 K n (l1 + 1) l0 (zup3 (zup3 F 1 (B 4 l0 5 l1) 0 (F 4 l0 7)) 4 l0 7 ((F 4 l0 7) + (F 1 (B 4 l0 5 l1) 1))) B else none else none) else none else none else none) = some (r, F9, B9) := hf
    refine lv_iload_n hx hb d_6_5_7 rfl (lv_at hl 0 rfl) ?_
    refine lv_aload_n hx hb d_6_5_8 rfl (lv_at hl 1 rfl) ?_
    obtain ⟨g3, hf⟩ := gif hf
    refine zget (ci := 4) (C := RX4) (T := TX4) (v := .int (iI (F 4 l0 6))) (k := 6) hx hb hts inW_4 hown hK hZ g3.1 g3.2 rfl (by decide) k_4_135 rfl d_6_5_9 ?_
    obtain ⟨g4, hf⟩ := gif hf
    obtain ⟨g5, hf⟩ := gif hf
    refine zge (tgt := 52) hx hb g4 g5 d_6_5_12 (by decide) (fun h6 => ?_) (fun h6 => ?_)
    · replace hf := gpos hf h6
      cases hf
      exact W.vret hx hb hr (fun t ht hW => ⟨⟨(), rfl, trivial, by rw [ht]; exact hZ, va_K.moved hW.alike hK⟩, hS.F ht⟩) hS.2.2 d_6_5_52 hlk
    · replace hf := gneg hf h6
      refine lv_aload_n hx hb d_6_5_15 rfl (lv_at hl 1 rfl) ?_
      refine zget (ci := 4) (C := RX4) (T := TX4) (v := .ref (ad 4 l0 (5 + 1))) (k := 5) hx hb hts inW_4 hown hK hZ g3.1 g3.2 rfl (by decide) k_4_130 rfl d_6_5_16 ?_
      refine lv_iload_n hx hb d_6_5_19 rfl (lv_at hl 0 rfl) ?_
      obtain ⟨g7, hf⟩ := gif hf
      refine zaldR (t := 1) (x := 7) (ci := 4) (k := 5) hx hb hK rfl rfl hZ g3.1 g3.2 rfl (Nat.le_of_ble_eq_true rfl) g7.1 g7.2 d_6_5_20 ?_
      refine lv_aload_n hx hb d_6_5_21 rfl (lv_at hl 1 rfl) ?_
      refine zget (ci := 4) (C := RX4) (T := TX4) (v := .long (lI (F 4 l0 7))) (k := 7) hx hb hts inW_4 hown hK hZ g3.1 g3.2 rfl (by decide) k_4_140 rfl d_6_5_22 ?_
      obtain ⟨g8, hf⟩ := gif hf
      refine W.eq (g2 := F0 m 25 ls [.long (lI (F 4 l0 7)), .ref (ad 1 (B 4 l0 5 l1) 0)]) (by rw [zrf_pos (ad := ad) (t := 1) g8.1]; try rfl) ?_
      refine zput (ci := 1) (C := RX1) (T := TX1) (k := 0) (v := (F 4 l0 7)) (w := .long (lI (F 4 l0 7))) hx hb hts inW_1 tyX1 tyX1_ok nmX1 hown hK hZ hS g8.1 g8.2 rfl (by decide) k_2_21 rfl (fun G h => congrArg (fun q => Value.long (lI q)) h) rfl rfl (zno (by decide)) d_6_5_25 (fun H9 locs9 hZ9 hS9 => ?_)
      refine lv_aload_n hx hb d_6_5_28 rfl (lv_at hl 1 rfl) ?_
      refine lv_dup hx hb d_6_5_29 rfl ?_
      refine zget (ci := 4) (C := RX4) (T := TX4) (v := .long (lI (F 4 l0 7))) (k := 7) hx hb hts inW_4 hown hK hZ9 g3.1 g3.2 rfl (by decide) k_4_140 (congrArg (fun q : Int => Value.long (lI q)) (show (zup3 F 1 (B 4 l0 5 l1) 0 (F 4 l0 7)) 4 l0 7 = F 4 l0 7 by simp [zup3])) d_6_5_30 ?_
      refine lv_aload_n hx hb d_6_5_33 rfl (lv_at hl 1 rfl) ?_
      refine zget (ci := 4) (C := RX4) (T := TX4) (v := .ref (ad 4 l0 (5 + 1))) (k := 5) hx hb hts inW_4 hown hK hZ9 g3.1 g3.2 rfl (by decide) k_4_130 rfl d_6_5_34 ?_
      refine lv_iload_n hx hb d_6_5_37 rfl (lv_at hl 0 rfl) ?_
      refine zaldR (t := 1) (x := 7) (ci := 4) (k := 5) hx hb hK rfl rfl hZ9 g3.1 g3.2 rfl (Nat.le_of_ble_eq_true rfl) g7.1 g7.2 d_6_5_38 ?_
      refine zunrf g8.1 ?_
      refine zget (ci := 1) (C := RX1) (T := TX1) (v := .long (lI (F 1 (B 4 l0 5 l1) 1))) (k := 1) hx hb hts inW_1 hown hK hZ9 g8.1 g8.2 rfl (by decide) k_2_24 (congrArg (fun q : Int => Value.long (lI q)) (show (zup3 F 1 (B 4 l0 5 l1) 0 (F 4 l0 7)) 1 (B 4 l0 5 l1) 1 = F 1 (B 4 l0 5 l1) 1 by simp [zup3])) d_6_5_39 ?_
      refine zladd hx hb d_6_5_42 ?_
      refine zput (ci := 4) (C := RX4) (T := TX4) (k := 7) (v := ((F 4 l0 7) + (F 1 (B 4 l0 5 l1) 1))) (w := .long (lI ((F 4 l0 7) + (F 1 (B 4 l0 5 l1) 1)))) hx hb hts inW_4 tyX4 tyX4_ok nmX4 hown hK hZ9 hS9 g3.1 g3.2 rfl (by decide) k_4_140 rfl (fun G h => congrArg (fun q => Value.long (lI q)) h) rfl rfl (zno (by decide)) d_6_5_43 (fun H10 locs10 hZ10 hS10 => ?_)
      refine lv_iinc (v := iI (l1 + 1)) (lv' := [(1, .int (iI (l1 + 1))), (0, .ref (ad 4 l0 0))]) hx hb d_6_5_46 hl (k := 0) rfl (iI_add _ 1) (by decide) rfl (fun ls hl => ?_)
      refine lv_goto (tgt := 7) hx hb d_6_5_49 (by decide) ?_
      exact ih hf hZ10 hS10 (lv_sub hl [0, 1] rfl)

def f_Part_placeEvents (K : zK) (l0 : Int) (F : zF) (B : zB) : zO := if 0 ≤ l0 ∧ l0 < K.2 4 then f_Part_placeEvents_7 K K.1 0 l0 (zup3 F 4 l0 7 0) B else none
set_option maxHeartbeats 4000000 in
set_option maxRecDepth 100000 in
theorem c_Part_placeEvents {l : Launch} {D : va_G} {ca : Nat → ClassId} {ad : Nat → Int → Nat → Nat} {L : List Nat} {aS vS : Nat → Nat} {sz : Nat} {K : zK}  {l0 : Int} {F F9 : zF} {B B9 : zB} {r : Int} (hf : f_Part_placeEvents K l0 F B = some (r, F9, B9)) : Met l ({ cls := "StaveHouse$Part", name := "placeEvents", desc := "()V" } : Jvm.MethodName) (Cond.code ({ cls := "StaveHouse$Part", name := "placeEvents", desc := "()V" } : Jvm.MethodName) prog_6_method_5_code 2 (Option.none : Option Jvm.ClassFile.FieldType) :: wAll) ({ frames := 0, cells := 0, slots := 0, locals := 0 } : Room) (va_Pc [.ref (ad 4 l0 0)] (zPre D ca ad lnC K.2 L aS vS F B sz)) (Q_Part_placeEvents K D ca ad L r F9 B9 (zA L sz)) 0 0 (zA L sz) := by
  refine zMet (Qc := Q_Part_placeEvents K D ca ad L r F9 B9) (lv := [(0, .ref (ad 4 l0 0))]) (by decide) (Nat.le_of_ble_eq_true rfl) rfl (fun A p e s m below meth c ls X hZ hS hl => ?_)
  obtain ⟨hx, hb, hr, hml, hown, hts, hlk, hK, hA, hL, hX⟩ := id X
  replace hf : (if 0 ≤ l0 ∧ l0 < K.2 4 then f_Part_placeEvents_7 K K.1 0 l0 (zup3 F 4 l0 7 0) B else none) = some (r, F9, B9) := hf
  refine lv_aload_n hx hb d_6_5_0 rfl (lv_at hl 0 rfl) ?_
  refine lv_lconst (v := lI 0) hx hb d_6_5_1 (by decide) ?_
  obtain ⟨g1, hf⟩ := gif hf
  refine zput (ci := 4) (C := RX4) (T := TX4) (k := 7) (v := 0) (w := .long (lI 0)) hx hb hts inW_4 tyX4 tyX4_ok nmX4 hown hK hZ hS g1.1 g1.2 rfl (by decide) k_4_140 rfl (fun G h => congrArg (fun q => Value.long (lI q)) h) rfl rfl (zno (by decide)) d_6_5_2 (fun H2 locs2 hZ2 hS2 => ?_)
  refine lv_iconst (v := iI 0) hx hb d_6_5_5 rfl ?_
  refine lv_istore_n (lv' := [(1, .int (iI 0)), (0, .ref (ad 4 l0 0))]) hx hb d_6_5_6 rfl hl (by decide) rfl (fun ls hl => ?_)
  exact b_Part_placeEvents_7 X hf hZ2 hS2 (lv_sub hl [0, 1] rfl)

abbrev Q_Part_bracketStands (K : zK) (D : va_G) (ca : Nat → ClassId) (ad : Nat → Int → Nat → Nat) (L : List Nat) (r : Int) (F : zF) (B : zB) (A : Nat → Prop) : Array Value → State → Outcome → State → Prop := va_Qi (S := Unit) (fun p _ => p = iI r) (fun _ => zPo D ca ad lnC K.2 L F B A) A
def f_Part_bracketStands_140 (K : zK) (s0 : Int) (F : zF) (B : zB) : zO := if (s0 = 0 ∨ s0 = 1) then some (s0, F, B) else none
set_option maxHeartbeats 4000000 in
set_option maxRecDepth 100000 in
theorem b_Part_bracketStands_140 {D : va_G} {ca : Nat → ClassId} {ad : Nat → Int → Nat → Nat} {L : List Nat} {aS vS : Nat → Nat} {A : Nat → Prop} {p : Program} {l : Launch} {e : Env} {s : State} {m : MethodId} {args : Array Value} {below : List Frame} {meth : Method} {c : Code} {K : zK} {r : Int} {F9 : zF} {B9 : zB} (X : zX D ca L aS vS A p s m args meth c prog_6_method_6_code 10 (Option.some Jvm.ClassFile.FieldType.boolean) "StaveHouse$Part") {s0 : Int} {F : zF} {B : zB} {H : Heap} {locs : List Loc} {ls : Array Slot} (hf : f_Part_bracketStands_140 K s0 F B = some (r, F9, B9)) (hZ : zH D ca ad lnC K.2 L F B A H) (hS : va_S A s.heap H locs) (hl : lv_has ls 10 []) : W p l e ({ frames := 0, cells := 0, slots := 0, locals := 0 } : Room) s m args below meth c H locs 0 0 (MQ below (Q_Part_bracketStands K D ca ad L r F9 B9 A) args s 0 0 A) (F0 m 140 ls [.int (iI s0)]) := by
  obtain ⟨hx, hb, hr, hml, hown, hts, hlk, hK, hA, hL, hX⟩ := id X
  replace hf : (if (s0 = 0 ∨ s0 = 1) then some (s0, F, B) else none) = some (r, F9, B9) := hf
  obtain ⟨g33, hf⟩ := gif hf
  cases hf
  exact W.zret hx hb hr (zbool g33) (fun t ht hW => ⟨⟨_, (), rfl, rfl, by rw [ht]; exact hZ, va_K.moved hW.alike hK⟩, hS.F ht⟩) hS.2.2 d_6_6_140 hlk

def f_Part_bracketStands_139 (K : zK)  (F : zF) (B : zB) : zO := f_Part_bracketStands_140 K 0 F B
set_option maxHeartbeats 4000000 in
set_option maxRecDepth 100000 in
theorem b_Part_bracketStands_139 {D : va_G} {ca : Nat → ClassId} {ad : Nat → Int → Nat → Nat} {L : List Nat} {aS vS : Nat → Nat} {A : Nat → Prop} {p : Program} {l : Launch} {e : Env} {s : State} {m : MethodId} {args : Array Value} {below : List Frame} {meth : Method} {c : Code} {K : zK} {r : Int} {F9 : zF} {B9 : zB} (X : zX D ca L aS vS A p s m args meth c prog_6_method_6_code 10 (Option.some Jvm.ClassFile.FieldType.boolean) "StaveHouse$Part")  {F : zF} {B : zB} {H : Heap} {locs : List Loc} {ls : Array Slot} (hf : f_Part_bracketStands_139 K  F B = some (r, F9, B9)) (hZ : zH D ca ad lnC K.2 L F B A H) (hS : va_S A s.heap H locs) (hl : lv_has ls 10 []) : W p l e ({ frames := 0, cells := 0, slots := 0, locals := 0 } : Room) s m args below meth c H locs 0 0 (MQ below (Q_Part_bracketStands K D ca ad L r F9 B9 A) args s 0 0 A) (F0 m 139 ls []) := by
  obtain ⟨hx, hb, hr, hml, hown, hts, hlk, hK, hA, hL, hX⟩ := id X
  replace hf : (f_Part_bracketStands_140 K 0 F B) = some (r, F9, B9) := hf
  refine lv_iconst (v := iI 0) hx hb d_6_6_139 rfl ?_
  exact b_Part_bracketStands_140 X hf hZ hS (lv_sub hl [] rfl)

def f_Part_bracketStands_107 (K : zK) (l7 : Int) (l5 : Int) (l2 : Int) (F : zF) (B : zB) : zO := if ¬ lI l2 = 0 then if r64 (zldv l5 l2) then if r64 (zldv (l7 - 1) l2) then (if (zcmp (zldv l5 l2) (zldv (l7 - 1) l2)) = 0 then if r64 (zlrm (l7 - l5) 6350400) then (if (zcmp (zlrm (l7 - l5) 6350400) 0) = 0 then f_Part_bracketStands_140 K 1 F B else f_Part_bracketStands_139 K F B) else none else f_Part_bracketStands_139 K F B) else none else none else none
set_option maxHeartbeats 4000000 in
set_option maxRecDepth 100000 in
theorem b_Part_bracketStands_107 {D : va_G} {ca : Nat → ClassId} {ad : Nat → Int → Nat → Nat} {L : List Nat} {aS vS : Nat → Nat} {A : Nat → Prop} {p : Program} {l : Launch} {e : Env} {s : State} {m : MethodId} {args : Array Value} {below : List Frame} {meth : Method} {c : Code} {K : zK} {r : Int} {F9 : zF} {B9 : zB} (X : zX D ca L aS vS A p s m args meth c prog_6_method_6_code 10 (Option.some Jvm.ClassFile.FieldType.boolean) "StaveHouse$Part") {l7 : Int} {l5 : Int} {l2 : Int} {F : zF} {B : zB} {H : Heap} {locs : List Loc} {ls : Array Slot} (hf : f_Part_bracketStands_107 K l7 l5 l2 F B = some (r, F9, B9)) (hZ : zH D ca ad lnC K.2 L F B A H) (hS : va_S A s.heap H locs) (hl : lv_has ls 10 [(7, .long (lI l7)), (5, .long (lI l5)), (2, .long (lI l2))]) : W p l e ({ frames := 0, cells := 0, slots := 0, locals := 0 } : Room) s m args below meth c H locs 0 0 (MQ below (Q_Part_bracketStands K D ca ad L r F9 B9 A) args s 0 0 A) (F0 m 107 ls []) := by
  obtain ⟨hx, hb, hr, hml, hown, hts, hlk, hK, hA, hL, hX⟩ := id X
  replace hf : (if ¬ lI l2 = 0 then if r64 (zldv l5 l2) then if r64 (zldv (l7 - 1) l2) then (if (zcmp (zldv l5 l2) (zldv (l7 - 1) l2)) = 0 then if r64 (zlrm (l7 - l5) 6350400) then (if (zcmp (zlrm (l7 - l5) 6350400) 0) = 0 then f_Part_bracketStands_140 K 1 F B else f_Part_bracketStands_139 K F B) else none else f_Part_bracketStands_139 K F B) else none else none else none) = some (r, F9, B9) := hf
  refine lv_lload hx hb d_6_6_107 (lv_at hl 1 rfl) ?_
  refine lv_lload_n hx hb d_6_6_109 rfl (lv_at hl 2 rfl) ?_
  obtain ⟨g26, hf⟩ := gif hf
  refine zldv_r hx hb g26 d_6_6_110 ?_
  refine lv_lload hx hb d_6_6_111 (lv_at hl 0 rfl) ?_
  refine lv_lconst (v := lI 1) hx hb d_6_6_113 (by decide) ?_
  refine zlsub hx hb d_6_6_114 ?_
  refine lv_lload_n hx hb d_6_6_115 rfl (lv_at hl 2 rfl) ?_
  refine zldv_r hx hb g26 d_6_6_116 ?_
  obtain ⟨g27, hf⟩ := gif hf
  obtain ⟨g28, hf⟩ := gif hf
  refine zcmp_r hx hb g27 g28 d_6_6_117 ?_
  refine z0ne (tgt := 139) hx hb zcmp_32 d_6_6_118 (by decide) (fun h29 => ?_) (fun h29 => ?_)
  · replace hf := gneg hf h29
    exact b_Part_bracketStands_139 X hf hZ hS (lv_sub hl [] rfl)
  · replace hf := gpos hf h29
    refine lv_lload hx hb d_6_6_121 (lv_at hl 0 rfl) ?_
    refine lv_lload hx hb d_6_6_123 (lv_at hl 1 rfl) ?_
    refine zlsub hx hb d_6_6_125 ?_
    refine lv_ldc2 hx hb hown (hts _ k_5_36) d_6_6_126 ?_
    refine W.eq (g2 := F0 m 129 ls [.long (lI 6350400), .long (lI (l7 - l5))]) rfl ?_
    refine zlrm_r hx hb (by decide) d_6_6_129 ?_
    refine lv_lconst (v := lI 0) hx hb d_6_6_130 (by decide) ?_
    obtain ⟨g30, hf⟩ := gif hf
    refine zcmp_r hx hb g30 (by decide) d_6_6_131 ?_
    refine z0ne (tgt := 139) hx hb zcmp_32 d_6_6_132 (by decide) (fun h31 => ?_) (fun h31 => ?_)
    · replace hf := gneg hf h31
      exact b_Part_bracketStands_139 X hf hZ hS (lv_sub hl [] rfl)
    · replace hf := gpos hf h31
      refine lv_iconst (v := iI 1) hx hb d_6_6_135 rfl ?_
      refine lv_goto (tgt := 140) hx hb d_6_6_136 (by decide) ?_
      exact b_Part_bracketStands_140 X hf hZ hS (lv_sub hl [] rfl)

def f_Part_bracketStands_62 (K : zK) : Nat → Int → Int → Int → Int → Int → Int → zF → zB → zO
  | 0, _, _, _, _, _, _, _, _ => none
  | n + 1, l9, l7, l5, l4, l0, l2, F, B => if 0 ≤ l0 ∧ l0 < K.2 4 then if r32 l9 then if r32 (F 4 l0 6) then (if (F 4 l0 6) ≤ l9 then f_Part_bracketStands_107 K l7 l5 l2 F B else if 0 ≤ l9 ∧ l9 < 200 then if 0 ≤ (B 4 l0 5 l9) ∧ (B 4 l0 5 l9) < K.2 1 then if r32 (F 1 (B 4 l0 5 l9) 5) then if r32 l4 then (if (F 1 (B 4 l0 5 l9) 5) = l4 then f_Part_bracketStands_62 K n (l9 + 1) (l7 + (F 1 (B 4 l0 5 l9) 1)) l5 l4 l0 l2 F B else f_Part_bracketStands_107 K l7 l5 l2 F B) else none else none else none else none) else none else none else none
set_option maxHeartbeats 4000000 in
set_option maxRecDepth 100000 in
theorem b_Part_bracketStands_62 {D : va_G} {ca : Nat → ClassId} {ad : Nat → Int → Nat → Nat} {L : List Nat} {aS vS : Nat → Nat} {A : Nat → Prop} {p : Program} {l : Launch} {e : Env} {s : State} {m : MethodId} {args : Array Value} {below : List Frame} {meth : Method} {c : Code} {K : zK} {r : Int} {F9 : zF} {B9 : zB} (X : zX D ca L aS vS A p s m args meth c prog_6_method_6_code 10 (Option.some Jvm.ClassFile.FieldType.boolean) "StaveHouse$Part") : ∀ {n : Nat} {l9 : Int} {l7 : Int} {l5 : Int} {l4 : Int} {l0 : Int} {l2 : Int} {F : zF} {B : zB} {H : Heap} {locs : List Loc} {ls : Array Slot}, f_Part_bracketStands_62 K n l9 l7 l5 l4 l0 l2 F B = some (r, F9, B9) → zH D ca ad lnC K.2 L F B A H → va_S A s.heap H locs → lv_has ls 10 [(9, .int (iI l9)), (7, .long (lI l7)), (5, .long (lI l5)), (4, .int (iI l4)), (0, .ref (ad 4 l0 0)), (2, .long (lI l2))] → W p l e ({ frames := 0, cells := 0, slots := 0, locals := 0 } : Room) s m args below meth c H locs 0 0 (MQ below (Q_Part_bracketStands K D ca ad L r F9 B9 A) args s 0 0 A) (F0 m 62 ls []) := by
  obtain ⟨hx, hb, hr, hml, hown, hts, hlk, hK, hA, hL, hX⟩ := id X
  intro n
  induction n with
  | zero =>
    intros
    rename_i hf _ _ _
    cases hf
  | succ n ih =>
    intro l9 l7 l5 l4 l0 l2 F B H locs ls hf hZ hS hl
    replace hf : (if 0 ≤ l0 ∧ l0 < K.2 4 then if r32 l9 then if r32 (F 4 l0 6) then (if (F 4 l0 6) ≤ l9 then f_Part_bracketStands_107 K l7 l5 l2 F B else if 0 ≤ l9 ∧ l9 < 200 then if 0 ≤ (B 4 l0 5 l9) ∧ (B 4 l0 5 l9) < K.2 1 then if r32 (F 1 (B 4 l0 5 l9) 5) then if r32 l4 then (if (F 1 (B 4 l0 5 l9) 5) = l4 then f_Part_bracketStands_62 K n (l9 + 1) (l7 + (F 1 (B 4 l0 5 l9) 1)) l5 l4 l0 l2 F B else f_Part_bracketStands_107 K l7 l5 l2 F B) else none else none else none else none) else none else none else none) = some (r, F9, B9) := hf
    refine lv_iload hx hb d_6_6_62 (lv_at hl 0 rfl) ?_
    refine lv_aload_n hx hb d_6_6_64 rfl (lv_at hl 4 rfl) ?_
    obtain ⟨g17, hf⟩ := gif hf
    refine zget (ci := 4) (C := RX4) (T := TX4) (v := .int (iI (F 4 l0 6))) (k := 6) hx hb hts inW_4 hown hK hZ g17.1 g17.2 rfl (by decide) k_4_135 rfl d_6_6_65 ?_
    obtain ⟨g18, hf⟩ := gif hf
    obtain ⟨g19, hf⟩ := gif hf
    refine zge (tgt := 107) hx hb g18 g19 d_6_6_68 (by decide) (fun h20 => ?_) (fun h20 => ?_)
    · replace hf := gpos hf h20
      exact b_Part_bracketStands_107 X hf hZ hS (lv_sub hl [1, 2, 5] rfl)
    · replace hf := gneg hf h20
      refine lv_aload_n hx hb d_6_6_71 rfl (lv_at hl 4 rfl) ?_
      refine zget (ci := 4) (C := RX4) (T := TX4) (v := .ref (ad 4 l0 (5 + 1))) (k := 5) hx hb hts inW_4 hown hK hZ g17.1 g17.2 rfl (by decide) k_4_130 rfl d_6_6_72 ?_
      refine lv_iload hx hb d_6_6_75 (lv_at hl 0 rfl) ?_
      obtain ⟨g21, hf⟩ := gif hf
      refine zaldR (t := 1) (x := 7) (ci := 4) (k := 5) hx hb hK rfl rfl hZ g17.1 g17.2 rfl (Nat.le_of_ble_eq_true rfl) g21.1 g21.2 d_6_6_77 ?_
      obtain ⟨g22, hf⟩ := gif hf
      refine zunrf g22.1 ?_
      refine zget (ci := 1) (C := RX1) (T := TX1) (v := .int (iI (F 1 (B 4 l0 5 l9) 5))) (k := 5) hx hb hts inW_1 hown hK hZ g22.1 g22.2 rfl (by decide) k_2_34 rfl d_6_6_78 ?_
      refine lv_iload hx hb d_6_6_81 (lv_at hl 3 rfl) ?_
      obtain ⟨g23, hf⟩ := gif hf
      obtain ⟨g24, hf⟩ := gif hf
      refine zne (tgt := 107) hx hb g23 g24 d_6_6_83 (by decide) (fun h25 => ?_) (fun h25 => ?_)
      · replace hf := gneg hf h25
        exact b_Part_bracketStands_107 X hf hZ hS (lv_sub hl [1, 2, 5] rfl)
      · replace hf := gpos hf h25
        refine lv_lload hx hb d_6_6_86 (lv_at hl 1 rfl) ?_
        refine lv_aload_n hx hb d_6_6_88 rfl (lv_at hl 4 rfl) ?_
        refine zget (ci := 4) (C := RX4) (T := TX4) (v := .ref (ad 4 l0 (5 + 1))) (k := 5) hx hb hts inW_4 hown hK hZ g17.1 g17.2 rfl (by decide) k_4_130 rfl d_6_6_89 ?_
        refine lv_iload hx hb d_6_6_92 (lv_at hl 0 rfl) ?_
        refine zaldR (t := 1) (x := 7) (ci := 4) (k := 5) hx hb hK rfl rfl hZ g17.1 g17.2 rfl (Nat.le_of_ble_eq_true rfl) g21.1 g21.2 d_6_6_94 ?_
        refine zunrf g22.1 ?_
        refine zget (ci := 1) (C := RX1) (T := TX1) (v := .long (lI (F 1 (B 4 l0 5 l9) 1))) (k := 1) hx hb hts inW_1 hown hK hZ g22.1 g22.2 rfl (by decide) k_2_24 rfl d_6_6_95 ?_
        refine zladd hx hb d_6_6_98 ?_
        refine lv_lstore (lv' := [(7, .long (lI (l7 + (F 1 (B 4 l0 5 l9) 1)))), (9, .int (iI l9)), (5, .long (lI l5)), (4, .int (iI l4)), (0, .ref (ad 4 l0 0)), (2, .long (lI l2))]) hx hb d_6_6_99 hl (by decide) rfl (fun ls hl => ?_)
        refine lv_iinc (v := iI (l9 + 1)) (lv' := [(9, .int (iI (l9 + 1))), (7, .long (lI (l7 + (F 1 (B 4 l0 5 l9) 1)))), (5, .long (lI l5)), (4, .int (iI l4)), (0, .ref (ad 4 l0 0)), (2, .long (lI l2))]) hx hb d_6_6_101 hl (k := 1) rfl (iI_add _ 1) (by decide) rfl (fun ls hl => ?_)
        refine lv_goto (tgt := 62) hx hb d_6_6_104 (by decide) ?_
        exact ih hf hZ hS (lv_sub hl [0, 1, 2, 3, 4, 5] rfl)

def f_Part_bracketStands_42 (K : zK)  (F : zF) (B : zB) : zO := some (1, F, B)
set_option maxHeartbeats 4000000 in
set_option maxRecDepth 100000 in
theorem b_Part_bracketStands_42 {D : va_G} {ca : Nat → ClassId} {ad : Nat → Int → Nat → Nat} {L : List Nat} {aS vS : Nat → Nat} {A : Nat → Prop} {p : Program} {l : Launch} {e : Env} {s : State} {m : MethodId} {args : Array Value} {below : List Frame} {meth : Method} {c : Code} {K : zK} {r : Int} {F9 : zF} {B9 : zB} (X : zX D ca L aS vS A p s m args meth c prog_6_method_6_code 10 (Option.some Jvm.ClassFile.FieldType.boolean) "StaveHouse$Part")  {F : zF} {B : zB} {H : Heap} {locs : List Loc} {ls : Array Slot} (hf : f_Part_bracketStands_42 K  F B = some (r, F9, B9)) (hZ : zH D ca ad lnC K.2 L F B A H) (hS : va_S A s.heap H locs) (hl : lv_has ls 10 []) : W p l e ({ frames := 0, cells := 0, slots := 0, locals := 0 } : Room) s m args below meth c H locs 0 0 (MQ below (Q_Part_bracketStands K D ca ad L r F9 B9 A) args s 0 0 A) (F0 m 42 ls []) := by
  obtain ⟨hx, hb, hr, hml, hown, hts, hlk, hK, hA, hL, hX⟩ := id X
  replace hf : (some (1, F, B)) = some (r, F9, B9) := hf
  refine lv_iconst (v := iI 1) hx hb d_6_6_42 rfl ?_
  cases hf
  exact W.zret hx hb hr rfl (fun t ht hW => ⟨⟨_, (), rfl, rfl, by rw [ht]; exact hZ, va_K.moved hW.alike hK⟩, hS.F ht⟩) hS.2.2 d_6_6_43 hlk

def f_Part_bracketStands_36 (K : zK) (l4 : Int) (l0 : Int) (l1 : Int) (l2 : Int) (F : zF) (B : zB) : zO := if r64 l2 then (if 0 < (zcmp l2 0) then if 0 ≤ l0 ∧ l0 < K.2 4 then if 0 ≤ l1 ∧ l1 < 200 then if 0 ≤ (B 4 l0 5 l1) ∧ (B 4 l0 5 l1) < K.2 1 then f_Part_bracketStands_62 K K.1 l1 (F 1 (B 4 l0 5 l1) 0) (F 1 (B 4 l0 5 l1) 0) l4 l0 l2 F B else none else none else none else f_Part_bracketStands_42 K F B) else none
set_option maxHeartbeats 4000000 in
set_option maxRecDepth 100000 in
theorem b_Part_bracketStands_36 {D : va_G} {ca : Nat → ClassId} {ad : Nat → Int → Nat → Nat} {L : List Nat} {aS vS : Nat → Nat} {A : Nat → Prop} {p : Program} {l : Launch} {e : Env} {s : State} {m : MethodId} {args : Array Value} {below : List Frame} {meth : Method} {c : Code} {K : zK} {r : Int} {F9 : zF} {B9 : zB} (X : zX D ca L aS vS A p s m args meth c prog_6_method_6_code 10 (Option.some Jvm.ClassFile.FieldType.boolean) "StaveHouse$Part") {l4 : Int} {l0 : Int} {l1 : Int} {l2 : Int} {F : zF} {B : zB} {H : Heap} {locs : List Loc} {ls : Array Slot} (hf : f_Part_bracketStands_36 K l4 l0 l1 l2 F B = some (r, F9, B9)) (hZ : zH D ca ad lnC K.2 L F B A H) (hS : va_S A s.heap H locs) (hl : lv_has ls 10 [(4, .int (iI l4)), (0, .ref (ad 4 l0 0)), (1, .int (iI l1)), (2, .long (lI l2))]) : W p l e ({ frames := 0, cells := 0, slots := 0, locals := 0 } : Room) s m args below meth c H locs 0 0 (MQ below (Q_Part_bracketStands K D ca ad L r F9 B9 A) args s 0 0 A) (F0 m 36 ls []) := by
  obtain ⟨hx, hb, hr, hml, hown, hts, hlk, hK, hA, hL, hX⟩ := id X
  replace hf : (if r64 l2 then (if 0 < (zcmp l2 0) then if 0 ≤ l0 ∧ l0 < K.2 4 then if 0 ≤ l1 ∧ l1 < 200 then if 0 ≤ (B 4 l0 5 l1) ∧ (B 4 l0 5 l1) < K.2 1 then f_Part_bracketStands_62 K K.1 l1 (F 1 (B 4 l0 5 l1) 0) (F 1 (B 4 l0 5 l1) 0) l4 l0 l2 F B else none else none else none else f_Part_bracketStands_42 K F B) else none) = some (r, F9, B9) := hf
  refine lv_lload_n hx hb d_6_6_36 rfl (lv_at hl 3 rfl) ?_
  refine lv_lconst (v := lI 0) hx hb d_6_6_37 (by decide) ?_
  obtain ⟨g12, hf⟩ := gif hf
  refine zcmp_r hx hb g12 (by decide) d_6_6_38 ?_
  refine z0gt (tgt := 44) hx hb zcmp_32 d_6_6_39 (by decide) (fun h13 => ?_) (fun h13 => ?_)
  · replace hf := gpos hf h13
    refine lv_aload_n hx hb d_6_6_44 rfl (lv_at hl 1 rfl) ?_
    obtain ⟨g14, hf⟩ := gif hf
    refine zget (ci := 4) (C := RX4) (T := TX4) (v := .ref (ad 4 l0 (5 + 1))) (k := 5) hx hb hts inW_4 hown hK hZ g14.1 g14.2 rfl (by decide) k_4_130 rfl d_6_6_45 ?_
    refine lv_iload_n hx hb d_6_6_48 rfl (lv_at hl 2 rfl) ?_
    obtain ⟨g15, hf⟩ := gif hf
    refine zaldR (t := 1) (x := 7) (ci := 4) (k := 5) hx hb hK rfl rfl hZ g14.1 g14.2 rfl (Nat.le_of_ble_eq_true rfl) g15.1 g15.2 d_6_6_49 ?_
    obtain ⟨g16, hf⟩ := gif hf
    refine zunrf g16.1 ?_
    refine zget (ci := 1) (C := RX1) (T := TX1) (v := .long (lI (F 1 (B 4 l0 5 l1) 0))) (k := 0) hx hb hts inW_1 hown hK hZ g16.1 g16.2 rfl (by decide) k_2_21 rfl d_6_6_50 ?_
    refine lv_lstore (lv' := [(5, .long (lI (F 1 (B 4 l0 5 l1) 0))), (4, .int (iI l4)), (0, .ref (ad 4 l0 0)), (1, .int (iI l1)), (2, .long (lI l2))]) hx hb d_6_6_53 hl (by decide) rfl (fun ls hl => ?_)
    refine lv_lload hx hb d_6_6_55 (lv_at hl 0 rfl) ?_
    refine lv_lstore (lv' := [(7, .long (lI (F 1 (B 4 l0 5 l1) 0))), (5, .long (lI (F 1 (B 4 l0 5 l1) 0))), (4, .int (iI l4)), (0, .ref (ad 4 l0 0)), (1, .int (iI l1)), (2, .long (lI l2))]) hx hb d_6_6_57 hl (by decide) rfl (fun ls hl => ?_)
    refine lv_iload_n hx hb d_6_6_59 rfl (lv_at hl 4 rfl) ?_
    refine lv_istore (lv' := [(9, .int (iI l1)), (7, .long (lI (F 1 (B 4 l0 5 l1) 0))), (5, .long (lI (F 1 (B 4 l0 5 l1) 0))), (4, .int (iI l4)), (0, .ref (ad 4 l0 0)), (1, .int (iI l1)), (2, .long (lI l2))]) hx hb d_6_6_60 hl (by decide) rfl (fun ls hl => ?_)
    exact b_Part_bracketStands_62 X hf hZ hS (lv_sub hl [0, 1, 2, 3, 4, 6] rfl)
  · replace hf := gneg hf h13
    exact b_Part_bracketStands_42 X hf hZ hS (lv_sub hl [] rfl)

def f_Part_bracketStands (K : zK) (l0 : Int) (l1 : Int) (l2 : Int) (F : zF) (B : zB) : zO := if 0 ≤ l0 ∧ l0 < K.2 4 then if 0 ≤ l1 ∧ l1 < 200 then if 0 ≤ (B 4 l0 5 l1) ∧ (B 4 l0 5 l1) < K.2 1 then if r32 (F 1 (B 4 l0 5 l1) 5) then (if (F 1 (B 4 l0 5 l1) 5) = 0 then f_Part_bracketStands_42 K F B else if r32 l1 then (if l1 ≤ 0 then f_Part_bracketStands_36 K (F 1 (B 4 l0 5 l1) 5) l0 l1 l2 F B else if 0 ≤ (l1 - 1) ∧ (l1 - 1) < 200 then if 0 ≤ (B 4 l0 5 (l1 - 1)) ∧ (B 4 l0 5 (l1 - 1)) < K.2 1 then if r32 (F 1 (B 4 l0 5 (l1 - 1)) 5) then (if (F 1 (B 4 l0 5 (l1 - 1)) 5) = (F 1 (B 4 l0 5 l1) 5) then f_Part_bracketStands_42 K F B else f_Part_bracketStands_36 K (F 1 (B 4 l0 5 l1) 5) l0 l1 l2 F B) else none else none else none) else none) else none else none else none else none
set_option maxHeartbeats 4000000 in
set_option maxRecDepth 100000 in
theorem c_Part_bracketStands {l : Launch} {D : va_G} {ca : Nat → ClassId} {ad : Nat → Int → Nat → Nat} {L : List Nat} {aS vS : Nat → Nat} {sz : Nat} {K : zK}  {l0 : Int} {l1 : Int} {l2 : Int} {F F9 : zF} {B B9 : zB} {r : Int} (hf : f_Part_bracketStands K l0 l1 l2 F B = some (r, F9, B9)) : Met l ({ cls := "StaveHouse$Part", name := "bracketStands", desc := "(IJ)Z" } : Jvm.MethodName) (Cond.code ({ cls := "StaveHouse$Part", name := "bracketStands", desc := "(IJ)Z" } : Jvm.MethodName) prog_6_method_6_code 10 (Option.some Jvm.ClassFile.FieldType.boolean) :: wAll) ({ frames := 0, cells := 0, slots := 0, locals := 0 } : Room) (va_Pc [.ref (ad 4 l0 0), .int (iI l1), .long (lI l2)] (zPre D ca ad lnC K.2 L aS vS F B sz)) (Q_Part_bracketStands K D ca ad L r F9 B9 (zA L sz)) 0 0 (zA L sz) := by
  refine zMet (Qc := Q_Part_bracketStands K D ca ad L r F9 B9) (lv := [(0, .ref (ad 4 l0 0)), (1, .int (iI l1)), (2, .long (lI l2))]) (by decide) (Nat.le_of_ble_eq_true rfl) rfl (fun A p e s m below meth c ls X hZ hS hl => ?_)
  obtain ⟨hx, hb, hr, hml, hown, hts, hlk, hK, hA, hL, hX⟩ := id X
  replace hf : (if 0 ≤ l0 ∧ l0 < K.2 4 then if 0 ≤ l1 ∧ l1 < 200 then if 0 ≤ (B 4 l0 5 l1) ∧ (B 4 l0 5 l1) < K.2 1 then if r32 (F 1 (B 4 l0 5 l1) 5) then (if (F 1 (B 4 l0 5 l1) 5) = 0 then f_Part_bracketStands_42 K F B else if r32 l1 then (if l1 ≤ 0 then f_Part_bracketStands_36 K (F 1 (B 4 l0 5 l1) 5) l0 l1 l2 F B else if 0 ≤ (l1 - 1) ∧ (l1 - 1) < 200 then if 0 ≤ (B 4 l0 5 (l1 - 1)) ∧ (B 4 l0 5 (l1 - 1)) < K.2 1 then if r32 (F 1 (B 4 l0 5 (l1 - 1)) 5) then (if (F 1 (B 4 l0 5 (l1 - 1)) 5) = (F 1 (B 4 l0 5 l1) 5) then f_Part_bracketStands_42 K F B else f_Part_bracketStands_36 K (F 1 (B 4 l0 5 l1) 5) l0 l1 l2 F B) else none else none else none) else none) else none else none else none else none) = some (r, F9, B9) := hf
  refine lv_aload_n hx hb d_6_6_0 rfl (lv_at hl 0 rfl) ?_
  obtain ⟨g1, hf⟩ := gif hf
  refine zget (ci := 4) (C := RX4) (T := TX4) (v := .ref (ad 4 l0 (5 + 1))) (k := 5) hx hb hts inW_4 hown hK hZ g1.1 g1.2 rfl (by decide) k_4_130 rfl d_6_6_1 ?_
  refine lv_iload_n hx hb d_6_6_4 rfl (lv_at hl 1 rfl) ?_
  obtain ⟨g2, hf⟩ := gif hf
  refine zaldR (t := 1) (x := 7) (ci := 4) (k := 5) hx hb hK rfl rfl hZ g1.1 g1.2 rfl (Nat.le_of_ble_eq_true rfl) g2.1 g2.2 d_6_6_5 ?_
  obtain ⟨g3, hf⟩ := gif hf
  refine zunrf g3.1 ?_
  refine zget (ci := 1) (C := RX1) (T := TX1) (v := .int (iI (F 1 (B 4 l0 5 l1) 5))) (k := 5) hx hb hts inW_1 hown hK hZ g3.1 g3.2 rfl (by decide) k_2_34 rfl d_6_6_6 ?_
  refine lv_istore (lv' := [(4, .int (iI (F 1 (B 4 l0 5 l1) 5))), (0, .ref (ad 4 l0 0)), (1, .int (iI l1)), (2, .long (lI l2))]) hx hb d_6_6_9 hl (by decide) rfl (fun ls hl => ?_)
  refine lv_iload hx hb d_6_6_11 (lv_at hl 0 rfl) ?_
  obtain ⟨g4, hf⟩ := gif hf
  refine z0eq (tgt := 42) hx hb g4 d_6_6_13 (by decide) (fun h5 => ?_) (fun h5 => ?_)
  · replace hf := gpos hf h5
    exact b_Part_bracketStands_42 X hf hZ hS (lv_sub hl [] rfl)
  · replace hf := gneg hf h5
    refine lv_iload_n hx hb d_6_6_16 rfl (lv_at hl 2 rfl) ?_
    obtain ⟨g6, hf⟩ := gif hf
    refine z0le (tgt := 36) hx hb g6 d_6_6_17 (by decide) (fun h7 => ?_) (fun h7 => ?_)
    · replace hf := gpos hf h7
      exact b_Part_bracketStands_36 X hf hZ hS (lv_sub hl [0, 1, 2, 3] rfl)
    · replace hf := gneg hf h7
      refine lv_aload_n hx hb d_6_6_20 rfl (lv_at hl 1 rfl) ?_
      refine zget (ci := 4) (C := RX4) (T := TX4) (v := .ref (ad 4 l0 (5 + 1))) (k := 5) hx hb hts inW_4 hown hK hZ g1.1 g1.2 rfl (by decide) k_4_130 rfl d_6_6_21 ?_
      refine lv_iload_n hx hb d_6_6_24 rfl (lv_at hl 2 rfl) ?_
      refine lv_iconst (v := iI 1) hx hb d_6_6_25 rfl ?_
      refine zsub hx hb d_6_6_26 ?_
      obtain ⟨g8, hf⟩ := gif hf
      refine zaldR (t := 1) (x := 7) (ci := 4) (k := 5) hx hb hK rfl rfl hZ g1.1 g1.2 rfl (Nat.le_of_ble_eq_true rfl) g8.1 g8.2 d_6_6_27 ?_
      obtain ⟨g9, hf⟩ := gif hf
      refine zunrf g9.1 ?_
      refine zget (ci := 1) (C := RX1) (T := TX1) (v := .int (iI (F 1 (B 4 l0 5 (l1 - 1)) 5))) (k := 5) hx hb hts inW_1 hown hK hZ g9.1 g9.2 rfl (by decide) k_2_34 rfl d_6_6_28 ?_
      refine lv_iload hx hb d_6_6_31 (lv_at hl 0 rfl) ?_
      obtain ⟨g10, hf⟩ := gif hf
      refine zeq (tgt := 42) hx hb g10 g4 d_6_6_33 (by decide) (fun h11 => ?_) (fun h11 => ?_)
      · replace hf := gpos hf h11
        exact b_Part_bracketStands_42 X hf hZ hS (lv_sub hl [] rfl)
      · replace hf := gneg hf h11
        exact b_Part_bracketStands_36 X hf hZ hS (lv_sub hl [0, 1, 2, 3] rfl)

abbrev Q_Event_hasPitch (K : zK) (D : va_G) (ca : Nat → ClassId) (ad : Nat → Int → Nat → Nat) (L : List Nat) (r : Int) (F : zF) (B : zB) (A : Nat → Prop) : Array Value → State → Outcome → State → Prop := va_Qi (S := Unit) (fun p _ => p = iI r) (fun _ => zPo D ca ad lnC K.2 L F B A) A
def f_Event_hasPitch_32 (rec2 : Int → Int → Int → Int → zF → zB → zO) (K : zK) (l3 : Int) (l0 : Int) (l1 : Int) (l2 : Int) (F : zF) (B : zB) : zO := rec2 (l3 + 1) l0 l1 l2 F B
set_option maxHeartbeats 4000000 in
set_option maxRecDepth 100000 in
theorem b_Event_hasPitch_32 {D : va_G} {ca : Nat → ClassId} {ad : Nat → Int → Nat → Nat} {L : List Nat} {aS vS : Nat → Nat} {A : Nat → Prop} {p : Program} {l : Launch} {e : Env} {s : State} {m : MethodId} {args : Array Value} {below : List Frame} {meth : Method} {c : Code} {K : zK} {r : Int} {F9 : zF} {B9 : zB} (X : zX D ca L aS vS A p s m args meth c prog_3_method_6_code 4 (Option.some Jvm.ClassFile.FieldType.boolean) "StaveHouse$Event") {rec2 : Int → Int → Int → Int → zF → zB → zO} (hrec2 : ∀ {l3 : Int} {l0 : Int} {l1 : Int} {l2 : Int} {F : zF} {B : zB} {H : Heap} {locs : List Loc} {ls : Array Slot}, rec2 l3 l0 l1 l2 F B = some (r, F9, B9) → zH D ca ad lnC K.2 L F B A H → va_S A s.heap H locs → lv_has ls 4 [(3, .int (iI l3)), (0, .ref (ad 1 l0 0)), (1, .int (iI l1)), (2, .int (iI l2))] → W p l e ({ frames := 0, cells := 0, slots := 0, locals := 0 } : Room) s m args below meth c H locs 0 0 (MQ below (Q_Event_hasPitch K D ca ad L r F9 B9 A) args s 0 0 A) (F0 m 2 ls [])) {l3 : Int} {l0 : Int} {l1 : Int} {l2 : Int} {F : zF} {B : zB} {H : Heap} {locs : List Loc} {ls : Array Slot} (hf : f_Event_hasPitch_32 rec2 K l3 l0 l1 l2 F B = some (r, F9, B9)) (hZ : zH D ca ad lnC K.2 L F B A H) (hS : va_S A s.heap H locs) (hl : lv_has ls 4 [(3, .int (iI l3)), (0, .ref (ad 1 l0 0)), (1, .int (iI l1)), (2, .int (iI l2))]) : W p l e ({ frames := 0, cells := 0, slots := 0, locals := 0 } : Room) s m args below meth c H locs 0 0 (MQ below (Q_Event_hasPitch K D ca ad L r F9 B9 A) args s 0 0 A) (F0 m 32 ls []) := by
  obtain ⟨hx, hb, hr, hml, hown, hts, hlk, hK, hA, hL, hX⟩ := id X
  replace hf : (rec2 (l3 + 1) l0 l1 l2 F B) = some (r, F9, B9) := hf
  refine lv_iinc (v := iI (l3 + 1)) (lv' := [(3, .int (iI (l3 + 1))), (0, .ref (ad 1 l0 0)), (1, .int (iI l1)), (2, .int (iI l2))]) hx hb d_3_6_32 hl (k := 0) rfl (iI_add _ 1) (by decide) rfl (fun ls hl => ?_)
  refine lv_goto (tgt := 2) hx hb d_3_6_35 (by decide) ?_
  exact hrec2 hf hZ hS (lv_sub hl [0, 1, 2, 3] rfl)

def f_Event_hasPitch_2 (K : zK) : Nat → Int → Int → Int → Int → zF → zB → zO
  | 0, _, _, _, _, _, _ => none
  | n + 1, l3, l0, l1, l2, F, B => if 0 ≤ l0 ∧ l0 < K.2 1 then if r32 l3 then if r32 (F 1 l0 10) then (if (F 1 l0 10) ≤ l3 then some (0, F, B) else if 0 ≤ l3 ∧ l3 < 6 then if r32 (B 1 l0 12 l3) then if r32 l1 then (if (B 1 l0 12 l3) = l1 then if r32 (B 1 l0 13 l3) then if r32 l2 then (if (B 1 l0 13 l3) = l2 then some (1, F, B) else f_Event_hasPitch_32 (f_Event_hasPitch_2 K n) K l3 l0 l1 l2 F B) else none else none else f_Event_hasPitch_32 (f_Event_hasPitch_2 K n) K l3 l0 l1 l2 F B) else none else none else none) else none else none else none
set_option maxHeartbeats 4000000 in
set_option maxRecDepth 100000 in
theorem b_Event_hasPitch_2 {D : va_G} {ca : Nat → ClassId} {ad : Nat → Int → Nat → Nat} {L : List Nat} {aS vS : Nat → Nat} {A : Nat → Prop} {p : Program} {l : Launch} {e : Env} {s : State} {m : MethodId} {args : Array Value} {below : List Frame} {meth : Method} {c : Code} {K : zK} {r : Int} {F9 : zF} {B9 : zB} (X : zX D ca L aS vS A p s m args meth c prog_3_method_6_code 4 (Option.some Jvm.ClassFile.FieldType.boolean) "StaveHouse$Event") : ∀ {n : Nat} {l3 : Int} {l0 : Int} {l1 : Int} {l2 : Int} {F : zF} {B : zB} {H : Heap} {locs : List Loc} {ls : Array Slot}, f_Event_hasPitch_2 K n l3 l0 l1 l2 F B = some (r, F9, B9) → zH D ca ad lnC K.2 L F B A H → va_S A s.heap H locs → lv_has ls 4 [(3, .int (iI l3)), (0, .ref (ad 1 l0 0)), (1, .int (iI l1)), (2, .int (iI l2))] → W p l e ({ frames := 0, cells := 0, slots := 0, locals := 0 } : Room) s m args below meth c H locs 0 0 (MQ below (Q_Event_hasPitch K D ca ad L r F9 B9 A) args s 0 0 A) (F0 m 2 ls []) := by
  obtain ⟨hx, hb, hr, hml, hown, hts, hlk, hK, hA, hL, hX⟩ := id X
  intro n
  induction n with
  | zero =>
    intros
    rename_i hf _ _ _
    cases hf
  | succ n ih =>
    intro l3 l0 l1 l2 F B H locs ls hf hZ hS hl
    replace hf : (if 0 ≤ l0 ∧ l0 < K.2 1 then if r32 l3 then if r32 (F 1 l0 10) then (if (F 1 l0 10) ≤ l3 then some (0, F, B) else if 0 ≤ l3 ∧ l3 < 6 then if r32 (B 1 l0 12 l3) then if r32 l1 then (if (B 1 l0 12 l3) = l1 then if r32 (B 1 l0 13 l3) then if r32 l2 then (if (B 1 l0 13 l3) = l2 then some (1, F, B) else f_Event_hasPitch_32 (f_Event_hasPitch_2 K n) K l3 l0 l1 l2 F B) else none else none else f_Event_hasPitch_32 (f_Event_hasPitch_2 K n) K l3 l0 l1 l2 F B) else none else none else none) else none else none else none) = some (r, F9, B9) := hf
    refine lv_iload_n hx hb d_3_6_2 rfl (lv_at hl 0 rfl) ?_
    refine lv_aload_n hx hb d_3_6_3 rfl (lv_at hl 1 rfl) ?_
    obtain ⟨g1, hf⟩ := gif hf
    refine zget (ci := 1) (C := RX1) (T := TX1) (v := .int (iI (F 1 l0 10))) (k := 10) hx hb hts inW_1 hown hK hZ g1.1 g1.2 rfl (by decide) k_2_48 rfl d_3_6_4 ?_
    obtain ⟨g2, hf⟩ := gif hf
    obtain ⟨g3, hf⟩ := gif hf
    refine zge (tgt := 38) hx hb g2 g3 d_3_6_7 (by decide) (fun h4 => ?_) (fun h4 => ?_)
    · replace hf := gpos hf h4
      refine lv_iconst (v := iI 0) hx hb d_3_6_38 rfl ?_
      cases hf
      exact W.zret hx hb hr rfl (fun t ht hW => ⟨⟨_, (), rfl, rfl, by rw [ht]; exact hZ, va_K.moved hW.alike hK⟩, hS.F ht⟩) hS.2.2 d_3_6_39 hlk
    · replace hf := gneg hf h4
      refine lv_aload_n hx hb d_3_6_10 rfl (lv_at hl 1 rfl) ?_
      refine zget (ci := 1) (C := RX1) (T := TX1) (v := .ref (ad 1 l0 (12 + 1))) (k := 12) hx hb hts inW_1 hown hK hZ g1.1 g1.2 rfl (by decide) k_2_57 rfl d_3_6_11 ?_
      refine lv_iload_n hx hb d_3_6_14 rfl (lv_at hl 0 rfl) ?_
      obtain ⟨g5, hf⟩ := gif hf
      refine zald (ci := 1) (k := 12) hx hb hK rfl hZ g1.1 g1.2 rfl (Nat.le_of_ble_eq_true rfl) g5.1 g5.2 d_3_6_15 ?_
      refine lv_iload_n hx hb d_3_6_16 rfl (lv_at hl 2 rfl) ?_
      obtain ⟨g6, hf⟩ := gif hf
      obtain ⟨g7, hf⟩ := gif hf
      refine zne (tgt := 32) hx hb g6 g7 d_3_6_17 (by decide) (fun h8 => ?_) (fun h8 => ?_)
      · replace hf := gneg hf h8
        exact b_Event_hasPitch_32 X ih hf hZ hS (lv_sub hl [0, 1, 2, 3] rfl)
      · replace hf := gpos hf h8
        refine lv_aload_n hx hb d_3_6_20 rfl (lv_at hl 1 rfl) ?_
        refine zget (ci := 1) (C := RX1) (T := TX1) (v := .ref (ad 1 l0 (13 + 1))) (k := 13) hx hb hts inW_1 hown hK hZ g1.1 g1.2 rfl (by decide) k_2_63 rfl d_3_6_21 ?_
        refine lv_iload_n hx hb d_3_6_24 rfl (lv_at hl 0 rfl) ?_
        refine zald (ci := 1) (k := 13) hx hb hK rfl hZ g1.1 g1.2 rfl (Nat.le_of_ble_eq_true rfl) g5.1 g5.2 d_3_6_25 ?_
        refine lv_iload_n hx hb d_3_6_26 rfl (lv_at hl 3 rfl) ?_
        obtain ⟨g9, hf⟩ := gif hf
        obtain ⟨g10, hf⟩ := gif hf
        refine zne (tgt := 32) hx hb g9 g10 d_3_6_27 (by decide) (fun h11 => ?_) (fun h11 => ?_)
        · replace hf := gneg hf h11
          exact b_Event_hasPitch_32 X ih hf hZ hS (lv_sub hl [0, 1, 2, 3] rfl)
        · replace hf := gpos hf h11
          refine lv_iconst (v := iI 1) hx hb d_3_6_30 rfl ?_
          cases hf
          exact W.zret hx hb hr rfl (fun t ht hW => ⟨⟨_, (), rfl, rfl, by rw [ht]; exact hZ, va_K.moved hW.alike hK⟩, hS.F ht⟩) hS.2.2 d_3_6_31 hlk

def f_Event_hasPitch (K : zK) (l0 : Int) (l1 : Int) (l2 : Int) (F : zF) (B : zB) : zO := f_Event_hasPitch_2 K K.1 0 l0 l1 l2 F B
set_option maxHeartbeats 4000000 in
set_option maxRecDepth 100000 in
theorem c_Event_hasPitch {l : Launch} {D : va_G} {ca : Nat → ClassId} {ad : Nat → Int → Nat → Nat} {L : List Nat} {aS vS : Nat → Nat} {sz : Nat} {K : zK}  {l0 : Int} {l1 : Int} {l2 : Int} {F F9 : zF} {B B9 : zB} {r : Int} (hf : f_Event_hasPitch K l0 l1 l2 F B = some (r, F9, B9)) : Met l ({ cls := "StaveHouse$Event", name := "hasPitch", desc := "(II)Z" } : Jvm.MethodName) (Cond.code ({ cls := "StaveHouse$Event", name := "hasPitch", desc := "(II)Z" } : Jvm.MethodName) prog_3_method_6_code 4 (Option.some Jvm.ClassFile.FieldType.boolean) :: wAll) ({ frames := 0, cells := 0, slots := 0, locals := 0 } : Room) (va_Pc [.ref (ad 1 l0 0), .int (iI l1), .int (iI l2)] (zPre D ca ad lnC K.2 L aS vS F B sz)) (Q_Event_hasPitch K D ca ad L r F9 B9 (zA L sz)) 0 0 (zA L sz) := by
  refine zMet (Qc := Q_Event_hasPitch K D ca ad L r F9 B9) (lv := [(0, .ref (ad 1 l0 0)), (1, .int (iI l1)), (2, .int (iI l2))]) (by decide) (Nat.le_of_ble_eq_true rfl) rfl (fun A p e s m below meth c ls X hZ hS hl => ?_)
  obtain ⟨hx, hb, hr, hml, hown, hts, hlk, hK, hA, hL, hX⟩ := id X
  replace hf : (f_Event_hasPitch_2 K K.1 0 l0 l1 l2 F B) = some (r, F9, B9) := hf
  refine lv_iconst (v := iI 0) hx hb d_3_6_0 rfl ?_
  refine lv_istore_n (lv' := [(3, .int (iI 0)), (0, .ref (ad 1 l0 0)), (1, .int (iI l1)), (2, .int (iI l2))]) hx hb d_3_6_1 rfl hl (by decide) rfl (fun ls hl => ?_)
  exact b_Event_hasPitch_2 X hf hZ hS (lv_sub hl [0, 1, 2, 3] rfl)

abbrev Q_S_fineValue (K : zK) (D : va_G) (ca : Nat → ClassId) (ad : Nat → Int → Nat → Nat) (L : List Nat) (r : Int) (F : zF) (B : zB) (A : Nat → Prop) : Array Value → State → Outcome → State → Prop := va_Qi (S := Unit) (fun p _ => p = iI r) (fun _ => zPo D ca ad lnC K.2 L F B A) A
def f_S_fineValue (K : zK) (l0 : Int) (F : zF) (B : zB) : zO := if 0 ≤ (2 - (zrm l0 3)) ∧ (2 - (zrm l0 3)) < ztl 4 then some (zdv ((zshr 512 (zdv l0 3)) * (ztv 4 (2 - (zrm l0 3)))) 4, F, B) else none
set_option maxHeartbeats 4000000 in
set_option maxRecDepth 100000 in
theorem c_S_fineValue {l : Launch} {D : va_G} {ca : Nat → ClassId} {ad : Nat → Int → Nat → Nat} {L : List Nat} {aS vS : Nat → Nat} {sz : Nat} {K : zK}  {l0 : Int} {F F9 : zF} {B B9 : zB} {r : Int} (hf : f_S_fineValue K l0 F B = some (r, F9, B9)) : Met l ({ cls := "StaveHouse", name := "fineValue", desc := "(I)I" } : Jvm.MethodName) (Cond.code ({ cls := "StaveHouse", name := "fineValue", desc := "(I)I" } : Jvm.MethodName) prog_1_method_40_code 1 (Option.some Jvm.ClassFile.FieldType.int) :: wAll) ({ frames := 0, cells := 0, slots := 0, locals := 0 } : Room) (va_Pc [.int (iI l0)] (zPre D ca ad lnC K.2 L aS vS F B sz)) (Q_S_fineValue K D ca ad L r F9 B9 (zA L sz)) 0 0 (zA L sz) := by
  refine zMet (Qc := Q_S_fineValue K D ca ad L r F9 B9) (lv := [(0, .int (iI l0))]) (by decide) (Nat.le_of_ble_eq_true rfl) rfl (fun A p e s m below meth c ls X hZ hS hl => ?_)
  obtain ⟨hx, hb, hr, hml, hown, hts, hlk, hK, hA, hL, hX⟩ := id X
  replace hf : (if 0 ≤ (2 - (zrm l0 3)) ∧ (2 - (zrm l0 3)) < ztl 4 then some (zdv ((zshr 512 (zdv l0 3)) * (ztv 4 (2 - (zrm l0 3)))) 4, F, B) else none) = some (r, F9, B9) := hf
  refine lv_sipush (v := iI 512) hx hb d_1_40_0 (by decide) ?_
  refine lv_iload_n hx hb d_1_40_3 rfl (lv_at hl 0 rfl) ?_
  refine lv_iconst (v := iI 3) hx hb d_1_40_4 rfl ?_
  refine zdv_r hx hb (by decide) d_1_40_5 ?_
  refine zshr_r hx hb d_1_40_6 ?_
  refine va_gets hx hb (hX.2.2.2.2.2.2 4 _ rfl).1 hS hown (hts _ k_5_70) (fun _ h => h) d_1_40_7 ?_
  refine W.eq (g2 := F0 m 10 ls [.ref (vS (1000 + 4)), .int (iI (zshr 512 (zdv l0 3)))]) rfl ?_
  refine lv_iconst (v := iI 2) hx hb d_1_40_10 rfl ?_
  refine lv_iload_n hx hb d_1_40_11 rfl (lv_at hl 0 rfl) ?_
  refine lv_iconst (v := iI 3) hx hb d_1_40_12 rfl ?_
  refine zrm_r hx hb (by decide) d_1_40_13 ?_
  refine zsub hx hb d_1_40_14 ?_
  obtain ⟨g1, hf⟩ := gif hf
  refine va_ti (v := .int (iI (ztv 4 (2 - (zrm l0 3))))) hx hb (ztI hX (by decide) (by decide)) hS (zt_in (by decide) g1) (ztI_v (by decide) g1) d_1_40_15 ?_
  refine zmul hx hb d_1_40_16 ?_
  refine lv_iconst (v := iI 4) hx hb d_1_40_17 rfl ?_
  refine zdv_r hx hb (by decide) d_1_40_18 ?_
  cases hf
  exact W.iret hx hb hr (fun t ht hW => ⟨⟨_, (), rfl, rfl, by rw [ht]; exact hZ, va_K.moved hW.alike hK⟩, hS.F ht⟩) hS.2.2 d_1_40_19 hlk

abbrev Q_Part_addNote (K : zK) (D : va_G) (ca : Nat → ClassId) (ad : Nat → Int → Nat → Nat) (L : List Nat) (r : Int) (F : zF) (B : zB) (A : Nat → Prop) : Array Value → State → Outcome → State → Prop := va_Qv (S := Unit) (fun _ => True) (fun _ => zPo D ca ad lnC K.2 L F B A) A
def f_Part_addNote (K : zK) (l0 : Int) (l1 : Int) (l2 : Int) (l3 : Int) (l5 : Int) (F : zF) (B : zB) : zO := if 0 ≤ l0 ∧ l0 < K.2 4 then if r32 (F 4 l0 10) then (if (F 4 l0 10) < 800 then if 0 ≤ (F 4 l0 10) ∧ (F 4 l0 10) < 800 then some (0, (zup3 F 4 l0 10 ((F 4 l0 10) + 1)), (zup4 (zup4 (zup4 (zup4 (zup4 B 4 l0 360 (F 4 l0 10) l1) 4 l0 361 (F 4 l0 10) l2) 4 l0 9 (F 4 l0 10) l3) 4 l0 364 (F 4 l0 10) (zdv l5 3)) 4 l0 365 (F 4 l0 10) (2 - (zrm l5 3)))) else none else some (0, (zup3 F 4 l0 11 1), B)) else none else none
set_option maxHeartbeats 4000000 in
set_option maxRecDepth 100000 in
theorem c_Part_addNote {l : Launch} {D : va_G} {ca : Nat → ClassId} {ad : Nat → Int → Nat → Nat} {L : List Nat} {aS vS : Nat → Nat} {sz : Nat} {K : zK}  {l0 : Int} {l1 : Int} {l2 : Int} {l3 : Int} {l5 : Int} {F F9 : zF} {B B9 : zB} {r : Int} (hf : f_Part_addNote K l0 l1 l2 l3 l5 F B = some (r, F9, B9)) : Met l ({ cls := "StaveHouse$Part", name := "addNote", desc := "(IIJI)V" } : Jvm.MethodName) (Cond.code ({ cls := "StaveHouse$Part", name := "addNote", desc := "(IIJI)V" } : Jvm.MethodName) prog_6_method_13_code 7 (Option.none : Option Jvm.ClassFile.FieldType) :: wAll) ({ frames := 0, cells := 0, slots := 0, locals := 0 } : Room) (va_Pc [.ref (ad 4 l0 0), .int (iI l1), .int (iI l2), .long (lI l3), .int (iI l5)] (zPre D ca ad lnC K.2 L aS vS F B sz)) (Q_Part_addNote K D ca ad L r F9 B9 (zA L sz)) 0 0 (zA L sz) := by
  refine zMet (Qc := Q_Part_addNote K D ca ad L r F9 B9) (lv := [(0, .ref (ad 4 l0 0)), (1, .int (iI l1)), (2, .int (iI l2)), (3, .long (lI l3)), (5, .int (iI l5))]) (by decide) (Nat.le_of_ble_eq_true rfl) rfl (fun A p e s m below meth c ls X hZ hS hl => ?_)
  obtain ⟨hx, hb, hr, hml, hown, hts, hlk, hK, hA, hL, hX⟩ := id X
  replace hf : (if 0 ≤ l0 ∧ l0 < K.2 4 then if r32 (F 4 l0 10) then (if (F 4 l0 10) < 800 then if 0 ≤ (F 4 l0 10) ∧ (F 4 l0 10) < 800 then some (0, (zup3 F 4 l0 10 ((F 4 l0 10) + 1)), (zup4 (zup4 (zup4 (zup4 (zup4 B 4 l0 360 (F 4 l0 10) l1) 4 l0 361 (F 4 l0 10) l2) 4 l0 9 (F 4 l0 10) l3) 4 l0 364 (F 4 l0 10) (zdv l5 3)) 4 l0 365 (F 4 l0 10) (2 - (zrm l5 3)))) else none else some (0, (zup3 F 4 l0 11 1), B)) else none else none) = some (r, F9, B9) := hf
  refine lv_aload_n hx hb d_6_13_0 rfl (lv_at hl 0 rfl) ?_
  obtain ⟨g1, hf⟩ := gif hf
  refine zget (ci := 4) (C := RX4) (T := TX4) (v := .int (iI (F 4 l0 10))) (k := 10) hx hb hts inW_4 hown hK hZ g1.1 g1.2 rfl (by decide) k_4_148 rfl d_6_13_1 ?_
  refine lv_sipush (v := iI 800) hx hb d_6_13_4 (by decide) ?_
  obtain ⟨g2, hf⟩ := gif hf
  refine zlt (tgt := 16) hx hb g2 (by decide) d_6_13_7 (by decide) (fun h3 => ?_) (fun h3 => ?_)
  · replace hf := gpos hf h3
    refine lv_aload_n hx hb d_6_13_16 rfl (lv_at hl 0 rfl) ?_
    refine zget (ci := 4) (C := RX4) (T := TX4) (v := .int (iI (F 4 l0 10))) (k := 10) hx hb hts inW_4 hown hK hZ g1.1 g1.2 rfl (by decide) k_4_148 rfl d_6_13_17 ?_
    refine lv_istore (lv' := [(6, .int (iI (F 4 l0 10))), (0, .ref (ad 4 l0 0)), (1, .int (iI l1)), (2, .int (iI l2)), (3, .long (lI l3)), (5, .int (iI l5))]) hx hb d_6_13_20 hl (by decide) rfl (fun ls hl => ?_)
    refine lv_aload_n hx hb d_6_13_22 rfl (lv_at hl 1 rfl) ?_
    refine zget (ci := 4) (C := RX4) (T := TX4) (v := .ref (ad 4 l0 (8 + 1))) (k := 8) hx hb hts inW_4 hown hK hZ g1.1 g1.2 rfl (by decide) k_4_142 rfl d_6_13_23 ?_
    refine lv_iconst (v := iI 0) hx hb d_6_13_26 rfl ?_
    refine zaldQ (t := 0) (ci := 4) (k := 8) hx hb hK rfl hZ g1.1 g1.2 rfl (Nat.le_of_ble_eq_true rfl) (by decide) (by decide) d_6_13_27 ?_
    refine W.eq (g2 := F0 m 28 ls [.ref (ad 4 l0 (360 + 1))]) rfl ?_
    refine lv_iload hx hb d_6_13_28 (lv_at hl 0 rfl) ?_
    refine lv_iload_n hx hb d_6_13_30 rfl (lv_at hl 2 rfl) ?_
    obtain ⟨g4, hf⟩ := gif hf
    refine zast (ci := 4) (k := 360) hx hb hK rfl hZ hS g1.1 g1.2 rfl (Nat.le_of_ble_eq_true rfl) g4.1 g4.2 d_6_13_31 (fun H5 locs5 hZ5 hS5 => ?_)
    refine lv_aload_n hx hb d_6_13_32 rfl (lv_at hl 1 rfl) ?_
    refine zget (ci := 4) (C := RX4) (T := TX4) (v := .ref (ad 4 l0 (8 + 1))) (k := 8) hx hb hts inW_4 hown hK hZ5 g1.1 g1.2 rfl (by decide) k_4_142 rfl d_6_13_33 ?_
    refine lv_iconst (v := iI 1) hx hb d_6_13_36 rfl ?_
    refine zaldQ (t := 0) (ci := 4) (k := 8) hx hb hK rfl hZ5 g1.1 g1.2 rfl (Nat.le_of_ble_eq_true rfl) (by decide) (by decide) d_6_13_37 ?_
    refine W.eq (g2 := F0 m 38 ls [.ref (ad 4 l0 (361 + 1))]) rfl ?_
    refine lv_iload hx hb d_6_13_38 (lv_at hl 0 rfl) ?_
    refine lv_iload_n hx hb d_6_13_40 rfl (lv_at hl 3 rfl) ?_
    refine zast (ci := 4) (k := 361) hx hb hK rfl hZ5 hS5 g1.1 g1.2 rfl (Nat.le_of_ble_eq_true rfl) g4.1 g4.2 d_6_13_41 (fun H6 locs6 hZ6 hS6 => ?_)
    refine lv_aload_n hx hb d_6_13_42 rfl (lv_at hl 1 rfl) ?_
    refine zget (ci := 4) (C := RX4) (T := TX4) (v := .ref (ad 4 l0 (9 + 1))) (k := 9) hx hb hts inW_4 hown hK hZ6 g1.1 g1.2 rfl (by decide) k_4_145 rfl d_6_13_43 ?_
    refine lv_iload hx hb d_6_13_46 (lv_at hl 0 rfl) ?_
    refine lv_lload_n hx hb d_6_13_48 rfl (lv_at hl 4 rfl) ?_
    refine zlast (ci := 4) (k := 9) hx hb hK rfl hZ6 hS6 g1.1 g1.2 rfl (Nat.le_of_ble_eq_true rfl) g4.1 g4.2 d_6_13_49 (fun H7 locs7 hZ7 hS7 => ?_)
    refine lv_aload_n hx hb d_6_13_50 rfl (lv_at hl 1 rfl) ?_
    refine zget (ci := 4) (C := RX4) (T := TX4) (v := .ref (ad 4 l0 (8 + 1))) (k := 8) hx hb hts inW_4 hown hK hZ7 g1.1 g1.2 rfl (by decide) k_4_142 rfl d_6_13_51 ?_
    refine lv_iconst (v := iI 4) hx hb d_6_13_54 rfl ?_
    refine zaldQ (t := 0) (ci := 4) (k := 8) hx hb hK rfl hZ7 g1.1 g1.2 rfl (Nat.le_of_ble_eq_true rfl) (by decide) (by decide) d_6_13_55 ?_
    refine W.eq (g2 := F0 m 56 ls [.ref (ad 4 l0 (364 + 1))]) rfl ?_
    refine lv_iload hx hb d_6_13_56 (lv_at hl 0 rfl) ?_
    refine lv_iload hx hb d_6_13_58 (lv_at hl 5 rfl) ?_
    refine lv_iconst (v := iI 3) hx hb d_6_13_60 rfl ?_
    refine zdv_r hx hb (by decide) d_6_13_61 ?_
    refine zast (ci := 4) (k := 364) hx hb hK rfl hZ7 hS7 g1.1 g1.2 rfl (Nat.le_of_ble_eq_true rfl) g4.1 g4.2 d_6_13_62 (fun H8 locs8 hZ8 hS8 => ?_)
    refine lv_aload_n hx hb d_6_13_63 rfl (lv_at hl 1 rfl) ?_
    refine zget (ci := 4) (C := RX4) (T := TX4) (v := .ref (ad 4 l0 (8 + 1))) (k := 8) hx hb hts inW_4 hown hK hZ8 g1.1 g1.2 rfl (by decide) k_4_142 rfl d_6_13_64 ?_
    refine lv_iconst (v := iI 5) hx hb d_6_13_67 rfl ?_
    refine zaldQ (t := 0) (ci := 4) (k := 8) hx hb hK rfl hZ8 g1.1 g1.2 rfl (Nat.le_of_ble_eq_true rfl) (by decide) (by decide) d_6_13_68 ?_
    refine W.eq (g2 := F0 m 69 ls [.ref (ad 4 l0 (365 + 1))]) rfl ?_
    refine lv_iload hx hb d_6_13_69 (lv_at hl 0 rfl) ?_
    refine lv_iconst (v := iI 2) hx hb d_6_13_71 rfl ?_
    refine lv_iload hx hb d_6_13_72 (lv_at hl 5 rfl) ?_
    refine lv_iconst (v := iI 3) hx hb d_6_13_74 rfl ?_
    refine zrm_r hx hb (by decide) d_6_13_75 ?_
    refine zsub hx hb d_6_13_76 ?_
    refine zast (ci := 4) (k := 365) hx hb hK rfl hZ8 hS8 g1.1 g1.2 rfl (Nat.le_of_ble_eq_true rfl) g4.1 g4.2 d_6_13_77 (fun H9 locs9 hZ9 hS9 => ?_)
    refine lv_aload_n hx hb d_6_13_78 rfl (lv_at hl 1 rfl) ?_
    refine lv_dup hx hb d_6_13_79 rfl ?_
    refine zget (ci := 4) (C := RX4) (T := TX4) (v := .int (iI (F 4 l0 10))) (k := 10) hx hb hts inW_4 hown hK hZ9 g1.1 g1.2 rfl (by decide) k_4_148 rfl d_6_13_80 ?_
    refine lv_iconst (v := iI 1) hx hb d_6_13_83 rfl ?_
    refine zadd hx hb d_6_13_84 ?_
    refine zput (ci := 4) (C := RX4) (T := TX4) (k := 10) (v := ((F 4 l0 10) + 1)) (w := .int (iI ((F 4 l0 10) + 1))) hx hb hts inW_4 tyX4 tyX4_ok nmX4 hown hK hZ9 hS9 g1.1 g1.2 rfl (by decide) k_4_148 rfl (fun G h => congrArg (fun q => Value.int (iI q)) h) rfl rfl (zno (by decide)) d_6_13_85 (fun H10 locs10 hZ10 hS10 => ?_)
    cases hf
    exact W.vret hx hb hr (fun t ht hW => ⟨⟨(), rfl, trivial, by rw [ht]; exact hZ10, va_K.moved hW.alike hK⟩, hS10.F ht⟩) hS10.2.2 d_6_13_88 hlk
  · replace hf := gneg hf h3
    refine lv_aload_n hx hb d_6_13_10 rfl (lv_at hl 0 rfl) ?_
    refine lv_iconst (v := iI 1) hx hb d_6_13_11 rfl ?_
    refine zput (ci := 4) (C := RX4) (T := TX4) (k := 11) (v := 1) (w := .int (iI 1)) hx hb hts inW_4 tyX4 tyX4_ok nmX4 hown hK hZ hS g1.1 g1.2 rfl (by decide) k_4_151 rfl (fun G h => congrArg (fun q => Value.int (iI q)) h) rfl rfl (zno (by decide)) d_6_13_12 (fun H11 locs11 hZ11 hS11 => ?_)
    cases hf
    exact W.vret hx hb hr (fun t ht hW => ⟨⟨(), rfl, trivial, by rw [ht]; exact hZ11, va_K.moved hW.alike hK⟩, hS11.F ht⟩) hS11.2.2 d_6_13_15 hlk

abbrev Q_Event_isRest (K : zK) (D : va_G) (ca : Nat → ClassId) (ad : Nat → Int → Nat → Nat) (L : List Nat) (r : Int) (F : zF) (B : zB) (A : Nat → Prop) : Array Value → State → Outcome → State → Prop := va_Qi (S := Unit) (fun p _ => p = iI r) (fun _ => zPo D ca ad lnC K.2 L F B A) A
def f_Event_isRest_12 (K : zK) (s0 : Int) (F : zF) (B : zB) : zO := if (s0 = 0 ∨ s0 = 1) then some (s0, F, B) else none
set_option maxHeartbeats 4000000 in
set_option maxRecDepth 100000 in
theorem b_Event_isRest_12 {D : va_G} {ca : Nat → ClassId} {ad : Nat → Int → Nat → Nat} {L : List Nat} {aS vS : Nat → Nat} {A : Nat → Prop} {p : Program} {l : Launch} {e : Env} {s : State} {m : MethodId} {args : Array Value} {below : List Frame} {meth : Method} {c : Code} {K : zK} {r : Int} {F9 : zF} {B9 : zB} (X : zX D ca L aS vS A p s m args meth c prog_3_method_2_code 1 (Option.some Jvm.ClassFile.FieldType.boolean) "StaveHouse$Event") {s0 : Int} {F : zF} {B : zB} {H : Heap} {locs : List Loc} {ls : Array Slot} (hf : f_Event_isRest_12 K s0 F B = some (r, F9, B9)) (hZ : zH D ca ad lnC K.2 L F B A H) (hS : va_S A s.heap H locs) (hl : lv_has ls 1 []) : W p l e ({ frames := 0, cells := 0, slots := 0, locals := 0 } : Room) s m args below meth c H locs 0 0 (MQ below (Q_Event_isRest K D ca ad L r F9 B9 A) args s 0 0 A) (F0 m 12 ls [.int (iI s0)]) := by
  obtain ⟨hx, hb, hr, hml, hown, hts, hlk, hK, hA, hL, hX⟩ := id X
  replace hf : (if (s0 = 0 ∨ s0 = 1) then some (s0, F, B) else none) = some (r, F9, B9) := hf
  obtain ⟨g4, hf⟩ := gif hf
  cases hf
  exact W.zret hx hb hr (zbool g4) (fun t ht hW => ⟨⟨_, (), rfl, rfl, by rw [ht]; exact hZ, va_K.moved hW.alike hK⟩, hS.F ht⟩) hS.2.2 d_3_2_12 hlk

def f_Event_isRest (K : zK) (l0 : Int) (F : zF) (B : zB) : zO := if 0 ≤ l0 ∧ l0 < K.2 1 then if r32 (F 1 l0 10) then (if (F 1 l0 10) = 0 then f_Event_isRest_12 K 1 F B else f_Event_isRest_12 K 0 F B) else none else none
set_option maxHeartbeats 4000000 in
set_option maxRecDepth 100000 in
theorem c_Event_isRest {l : Launch} {D : va_G} {ca : Nat → ClassId} {ad : Nat → Int → Nat → Nat} {L : List Nat} {aS vS : Nat → Nat} {sz : Nat} {K : zK}  {l0 : Int} {F F9 : zF} {B B9 : zB} {r : Int} (hf : f_Event_isRest K l0 F B = some (r, F9, B9)) : Met l ({ cls := "StaveHouse$Event", name := "isRest", desc := "()Z" } : Jvm.MethodName) (Cond.code ({ cls := "StaveHouse$Event", name := "isRest", desc := "()Z" } : Jvm.MethodName) prog_3_method_2_code 1 (Option.some Jvm.ClassFile.FieldType.boolean) :: wAll) ({ frames := 0, cells := 0, slots := 0, locals := 0 } : Room) (va_Pc [.ref (ad 1 l0 0)] (zPre D ca ad lnC K.2 L aS vS F B sz)) (Q_Event_isRest K D ca ad L r F9 B9 (zA L sz)) 0 0 (zA L sz) := by
  refine zMet (Qc := Q_Event_isRest K D ca ad L r F9 B9) (lv := [(0, .ref (ad 1 l0 0))]) (by decide) (Nat.le_of_ble_eq_true rfl) rfl (fun A p e s m below meth c ls X hZ hS hl => ?_)
  obtain ⟨hx, hb, hr, hml, hown, hts, hlk, hK, hA, hL, hX⟩ := id X
  replace hf : (if 0 ≤ l0 ∧ l0 < K.2 1 then if r32 (F 1 l0 10) then (if (F 1 l0 10) = 0 then f_Event_isRest_12 K 1 F B else f_Event_isRest_12 K 0 F B) else none else none) = some (r, F9, B9) := hf
  refine lv_aload_n hx hb d_3_2_0 rfl (lv_at hl 0 rfl) ?_
  obtain ⟨g1, hf⟩ := gif hf
  refine zget (ci := 1) (C := RX1) (T := TX1) (v := .int (iI (F 1 l0 10))) (k := 10) hx hb hts inW_1 hown hK hZ g1.1 g1.2 rfl (by decide) k_2_48 rfl d_3_2_1 ?_
  obtain ⟨g2, hf⟩ := gif hf
  refine z0ne (tgt := 11) hx hb g2 d_3_2_4 (by decide) (fun h3 => ?_) (fun h3 => ?_)
  · replace hf := gneg hf h3
    refine lv_iconst (v := iI 0) hx hb d_3_2_11 rfl ?_
    exact b_Event_isRest_12 X hf hZ hS (lv_sub hl [] rfl)
  · replace hf := gpos hf h3
    refine lv_iconst (v := iI 1) hx hb d_3_2_7 rfl ?_
    refine lv_goto (tgt := 12) hx hb d_3_2_8 (by decide) ?_
    exact b_Event_isRest_12 X hf hZ hS (lv_sub hl [] rfl)

abbrev Q_S_beatCount (K : zK) (D : va_G) (ca : Nat → ClassId) (ad : Nat → Int → Nat → Nat) (L : List Nat) (r : Int) (F : zF) (B : zB) (A : Nat → Prop) : Array Value → State → Outcome → State → Prop := va_Qi (S := Unit) (fun p _ => p = iI r) (fun _ => zPo D ca ad lnC K.2 L F B A) A
def f_S_beatCount_24 (K : zK) (s0 : Int) (F : zF) (B : zB) : zO := some (s0, F, B)
set_option maxHeartbeats 4000000 in
set_option maxRecDepth 100000 in
theorem b_S_beatCount_24 {D : va_G} {ca : Nat → ClassId} {ad : Nat → Int → Nat → Nat} {L : List Nat} {aS vS : Nat → Nat} {A : Nat → Prop} {p : Program} {l : Launch} {e : Env} {s : State} {m : MethodId} {args : Array Value} {below : List Frame} {meth : Method} {c : Code} {K : zK} {r : Int} {F9 : zF} {B9 : zB} (X : zX D ca L aS vS A p s m args meth c prog_1_method_39_code 2 (Option.some Jvm.ClassFile.FieldType.int) "StaveHouse") {s0 : Int} {F : zF} {B : zB} {H : Heap} {locs : List Loc} {ls : Array Slot} (hf : f_S_beatCount_24 K s0 F B = some (r, F9, B9)) (hZ : zH D ca ad lnC K.2 L F B A H) (hS : va_S A s.heap H locs) (hl : lv_has ls 2 []) : W p l e ({ frames := 0, cells := 0, slots := 0, locals := 0 } : Room) s m args below meth c H locs 0 0 (MQ below (Q_S_beatCount K D ca ad L r F9 B9 A) args s 0 0 A) (F0 m 24 ls [.int (iI s0)]) := by
  obtain ⟨hx, hb, hr, hml, hown, hts, hlk, hK, hA, hL, hX⟩ := id X
  replace hf : (some (s0, F, B)) = some (r, F9, B9) := hf
  cases hf
  exact W.iret hx hb hr (fun t ht hW => ⟨⟨_, (), rfl, rfl, by rw [ht]; exact hZ, va_K.moved hW.alike hK⟩, hS.F ht⟩) hS.2.2 d_1_39_24 hlk

def f_S_beatCount_14 (K : zK) (l1 : Int) (F : zF) (B : zB) : zO := if r32 l1 then (if 4 < l1 then f_S_beatCount_24 K 2 F B else f_S_beatCount_24 K 1 F B) else none
set_option maxHeartbeats 4000000 in
set_option maxRecDepth 100000 in
theorem b_S_beatCount_14 {D : va_G} {ca : Nat → ClassId} {ad : Nat → Int → Nat → Nat} {L : List Nat} {aS vS : Nat → Nat} {A : Nat → Prop} {p : Program} {l : Launch} {e : Env} {s : State} {m : MethodId} {args : Array Value} {below : List Frame} {meth : Method} {c : Code} {K : zK} {r : Int} {F9 : zF} {B9 : zB} (X : zX D ca L aS vS A p s m args meth c prog_1_method_39_code 2 (Option.some Jvm.ClassFile.FieldType.int) "StaveHouse") {l1 : Int} {F : zF} {B : zB} {H : Heap} {locs : List Loc} {ls : Array Slot} (hf : f_S_beatCount_14 K l1 F B = some (r, F9, B9)) (hZ : zH D ca ad lnC K.2 L F B A H) (hS : va_S A s.heap H locs) (hl : lv_has ls 2 [(1, .int (iI l1))]) : W p l e ({ frames := 0, cells := 0, slots := 0, locals := 0 } : Room) s m args below meth c H locs 0 0 (MQ below (Q_S_beatCount K D ca ad L r F9 B9 A) args s 0 0 A) (F0 m 14 ls []) := by
  obtain ⟨hx, hb, hr, hml, hown, hts, hlk, hK, hA, hL, hX⟩ := id X
  replace hf : (if r32 l1 then (if 4 < l1 then f_S_beatCount_24 K 2 F B else f_S_beatCount_24 K 1 F B) else none) = some (r, F9, B9) := hf
  refine lv_iload_n hx hb d_1_39_14 rfl (lv_at hl 0 rfl) ?_
  refine lv_iconst (v := iI 4) hx hb d_1_39_15 rfl ?_
  obtain ⟨g5, hf⟩ := gif hf
  refine zgt (tgt := 23) hx hb g5 (by decide) d_1_39_16 (by decide) (fun h6 => ?_) (fun h6 => ?_)
  · replace hf := gpos hf h6
    refine lv_iconst (v := iI 2) hx hb d_1_39_23 rfl ?_
    exact b_S_beatCount_24 X hf hZ hS (lv_sub hl [] rfl)
  · replace hf := gneg hf h6
    refine lv_iconst (v := iI 1) hx hb d_1_39_19 rfl ?_
    refine lv_goto (tgt := 24) hx hb d_1_39_20 (by decide) ?_
    exact b_S_beatCount_24 X hf hZ hS (lv_sub hl [] rfl)

def f_S_beatCount (K : zK) (l0 : Int) (l1 : Int) (F : zF) (B : zB) : zO := if r32 l1 then (if l1 < 8 then f_S_beatCount_14 K l1 F B else if r32 (zrm l0 3) then (if (zrm l0 3) = 0 then some (3, F, B) else f_S_beatCount_14 K l1 F B) else none) else none
set_option maxHeartbeats 4000000 in
set_option maxRecDepth 100000 in
theorem c_S_beatCount {l : Launch} {D : va_G} {ca : Nat → ClassId} {ad : Nat → Int → Nat → Nat} {L : List Nat} {aS vS : Nat → Nat} {sz : Nat} {K : zK}  {l0 : Int} {l1 : Int} {F F9 : zF} {B B9 : zB} {r : Int} (hf : f_S_beatCount K l0 l1 F B = some (r, F9, B9)) : Met l ({ cls := "StaveHouse", name := "beatCount", desc := "(II)I" } : Jvm.MethodName) (Cond.code ({ cls := "StaveHouse", name := "beatCount", desc := "(II)I" } : Jvm.MethodName) prog_1_method_39_code 2 (Option.some Jvm.ClassFile.FieldType.int) :: wAll) ({ frames := 0, cells := 0, slots := 0, locals := 0 } : Room) (va_Pc [.int (iI l0), .int (iI l1)] (zPre D ca ad lnC K.2 L aS vS F B sz)) (Q_S_beatCount K D ca ad L r F9 B9 (zA L sz)) 0 0 (zA L sz) := by
  refine zMet (Qc := Q_S_beatCount K D ca ad L r F9 B9) (lv := [(0, .int (iI l0)), (1, .int (iI l1))]) (by decide) (Nat.le_of_ble_eq_true rfl) rfl (fun A p e s m below meth c ls X hZ hS hl => ?_)
  obtain ⟨hx, hb, hr, hml, hown, hts, hlk, hK, hA, hL, hX⟩ := id X
  replace hf : (if r32 l1 then (if l1 < 8 then f_S_beatCount_14 K l1 F B else if r32 (zrm l0 3) then (if (zrm l0 3) = 0 then some (3, F, B) else f_S_beatCount_14 K l1 F B) else none) else none) = some (r, F9, B9) := hf
  refine lv_iload_n hx hb d_1_39_0 rfl (lv_at hl 1 rfl) ?_
  refine lv_bipush (v := iI 8) hx hb d_1_39_1 (by decide) ?_
  obtain ⟨g1, hf⟩ := gif hf
  refine zlt (tgt := 14) hx hb g1 (by decide) d_1_39_3 (by decide) (fun h2 => ?_) (fun h2 => ?_)
  · replace hf := gpos hf h2
    exact b_S_beatCount_14 X hf hZ hS (lv_sub hl [1] rfl)
  · replace hf := gneg hf h2
    refine lv_iload_n hx hb d_1_39_6 rfl (lv_at hl 0 rfl) ?_
    refine lv_iconst (v := iI 3) hx hb d_1_39_7 rfl ?_
    refine zrm_r hx hb (by decide) d_1_39_8 ?_
    obtain ⟨g3, hf⟩ := gif hf
    refine z0ne (tgt := 14) hx hb g3 d_1_39_9 (by decide) (fun h4 => ?_) (fun h4 => ?_)
    · replace hf := gneg hf h4
      exact b_S_beatCount_14 X hf hZ hS (lv_sub hl [1] rfl)
    · replace hf := gpos hf h4
      refine lv_iconst (v := iI 3) hx hb d_1_39_12 rfl ?_
      cases hf
      exact W.iret hx hb hr (fun t ht hW => ⟨⟨_, (), rfl, rfl, by rw [ht]; exact hZ, va_K.moved hW.alike hK⟩, hS.F ht⟩) hS.2.2 d_1_39_13 hlk

abbrev Q_S_strength (K : zK) (D : va_G) (ca : Nat → ClassId) (ad : Nat → Int → Nat → Nat) (L : List Nat) (r : Int) (F : zF) (B : zB) (A : Nat → Prop) : Array Value → State → Outcome → State → Prop := va_Qi (S := Unit) (fun p _ => p = iI r) (fun _ => zPo D ca ad lnC K.2 L F B A) A
def f_S_strength_42 (K : zK) : Nat → Int → Int → Int → zF → zB → zO
  | 0, _, _, _, _, _ => none
  | n + 1, l4, l2, l3, F, B => if r32 l4 then (if 5 ≤ l4 then some (1, F, B) else if ¬ iI (zshr l2 l4) = 0 then if r32 (zrm l3 (zshr l2 l4)) then (if (zrm l3 (zshr l2 l4)) = 0 then some (6 - l4, F, B) else f_S_strength_42 K n (l4 + 1) l2 l3 F B) else none else none) else none
set_option maxHeartbeats 4000000 in
set_option maxRecDepth 100000 in
theorem b_S_strength_42 {D : va_G} {ca : Nat → ClassId} {ad : Nat → Int → Nat → Nat} {L : List Nat} {aS vS : Nat → Nat} {A : Nat → Prop} {p : Program} {l : Launch} {e : Env} {s : State} {m : MethodId} {args : Array Value} {below : List Frame} {meth : Method} {c : Code} {K : zK} {r : Int} {F9 : zF} {B9 : zB} (X : zX D ca L aS vS A p s m args meth c prog_1_method_43_code 5 (Option.some Jvm.ClassFile.FieldType.int) "StaveHouse") : ∀ {n : Nat} {l4 : Int} {l2 : Int} {l3 : Int} {F : zF} {B : zB} {H : Heap} {locs : List Loc} {ls : Array Slot}, f_S_strength_42 K n l4 l2 l3 F B = some (r, F9, B9) → zH D ca ad lnC K.2 L F B A H → va_S A s.heap H locs → lv_has ls 5 [(4, .int (iI l4)), (2, .int (iI l2)), (3, .int (iI l3))] → W p l e ({ frames := 0, cells := 0, slots := 0, locals := 0 } : Room) s m args below meth c H locs 0 0 (MQ below (Q_S_strength K D ca ad L r F9 B9 A) args s 0 0 A) (F0 m 42 ls []) := by
  obtain ⟨hx, hb, hr, hml, hown, hts, hlk, hK, hA, hL, hX⟩ := id X
  intro n
  induction n with
  | zero =>
    intros
    rename_i hf _ _ _
    cases hf
  | succ n ih =>
    intro l4 l2 l3 F B H locs ls hf hZ hS hl
    replace hf : (if r32 l4 then (if 5 ≤ l4 then some (1, F, B) else if ¬ iI (zshr l2 l4) = 0 then if r32 (zrm l3 (zshr l2 l4)) then (if (zrm l3 (zshr l2 l4)) = 0 then some (6 - l4, F, B) else f_S_strength_42 K n (l4 + 1) l2 l3 F B) else none else none) else none) = some (r, F9, B9) := hf
    refine lv_iload hx hb d_1_43_42 (lv_at hl 0 rfl) ?_
    refine lv_iconst (v := iI 5) hx hb d_1_43_44 rfl ?_
    obtain ⟨g13, hf⟩ := gif hf
    refine zge (tgt := 69) hx hb g13 (by decide) d_1_43_45 (by decide) (fun h14 => ?_) (fun h14 => ?_)
    · replace hf := gpos hf h14
      refine lv_iconst (v := iI 1) hx hb d_1_43_69 rfl ?_
      cases hf
      exact W.iret hx hb hr (fun t ht hW => ⟨⟨_, (), rfl, rfl, by rw [ht]; exact hZ, va_K.moved hW.alike hK⟩, hS.F ht⟩) hS.2.2 d_1_43_70 hlk
    · replace hf := gneg hf h14
      refine lv_iload_n hx hb d_1_43_48 rfl (lv_at hl 2 rfl) ?_
      refine lv_iload_n hx hb d_1_43_49 rfl (lv_at hl 1 rfl) ?_
      refine lv_iload hx hb d_1_43_50 (lv_at hl 0 rfl) ?_
      refine zshr_r hx hb d_1_43_52 ?_
      obtain ⟨g15, hf⟩ := gif hf
      refine zrm_r hx hb g15 d_1_43_53 ?_
      obtain ⟨g16, hf⟩ := gif hf
      refine z0ne (tgt := 63) hx hb g16 d_1_43_54 (by decide) (fun h17 => ?_) (fun h17 => ?_)
      · replace hf := gneg hf h17
        refine lv_iinc (v := iI (l4 + 1)) (lv' := [(4, .int (iI (l4 + 1))), (2, .int (iI l2)), (3, .int (iI l3))]) hx hb d_1_43_63 hl (k := 0) rfl (iI_add _ 1) (by decide) rfl (fun ls hl => ?_)
        refine lv_goto (tgt := 42) hx hb d_1_43_66 (by decide) ?_
        exact ih hf hZ hS (lv_sub hl [0, 1, 2] rfl)
      · replace hf := gpos hf h17
        refine lv_bipush (v := iI 6) hx hb d_1_43_57 (by decide) ?_
        refine lv_iload hx hb d_1_43_59 (lv_at hl 0 rfl) ?_
        refine zsub hx hb d_1_43_61 ?_
        cases hf
        exact W.iret hx hb hr (fun t ht hW => ⟨⟨_, (), rfl, rfl, by rw [ht]; exact hZ, va_K.moved hW.alike hK⟩, hS.F ht⟩) hS.2.2 d_1_43_62 hlk

def f_S_strength_30 (K : zK) (l1 : Int) (l2 : Int) (l3 : Int) (F : zF) (B : zB) : zO := if ¬ iI l1 = 0 then if r32 (zrm l3 l1) then (if (zrm l3 l1) = 0 then some (7, F, B) else f_S_strength_42 K K.1 0 l2 l3 F B) else none else none
set_option maxHeartbeats 4000000 in
set_option maxRecDepth 100000 in
theorem b_S_strength_30 {D : va_G} {ca : Nat → ClassId} {ad : Nat → Int → Nat → Nat} {L : List Nat} {aS vS : Nat → Nat} {A : Nat → Prop} {p : Program} {l : Launch} {e : Env} {s : State} {m : MethodId} {args : Array Value} {below : List Frame} {meth : Method} {c : Code} {K : zK} {r : Int} {F9 : zF} {B9 : zB} (X : zX D ca L aS vS A p s m args meth c prog_1_method_43_code 5 (Option.some Jvm.ClassFile.FieldType.int) "StaveHouse") {l1 : Int} {l2 : Int} {l3 : Int} {F : zF} {B : zB} {H : Heap} {locs : List Loc} {ls : Array Slot} (hf : f_S_strength_30 K l1 l2 l3 F B = some (r, F9, B9)) (hZ : zH D ca ad lnC K.2 L F B A H) (hS : va_S A s.heap H locs) (hl : lv_has ls 5 [(1, .int (iI l1)), (2, .int (iI l2)), (3, .int (iI l3))]) : W p l e ({ frames := 0, cells := 0, slots := 0, locals := 0 } : Room) s m args below meth c H locs 0 0 (MQ below (Q_S_strength K D ca ad L r F9 B9 A) args s 0 0 A) (F0 m 30 ls []) := by
  obtain ⟨hx, hb, hr, hml, hown, hts, hlk, hK, hA, hL, hX⟩ := id X
  replace hf : (if ¬ iI l1 = 0 then if r32 (zrm l3 l1) then (if (zrm l3 l1) = 0 then some (7, F, B) else f_S_strength_42 K K.1 0 l2 l3 F B) else none else none) = some (r, F9, B9) := hf
  refine lv_iload_n hx hb d_1_43_30 rfl (lv_at hl 2 rfl) ?_
  refine lv_iload_n hx hb d_1_43_31 rfl (lv_at hl 0 rfl) ?_
  obtain ⟨g10, hf⟩ := gif hf
  refine zrm_r hx hb g10 d_1_43_32 ?_
  obtain ⟨g11, hf⟩ := gif hf
  refine z0ne (tgt := 39) hx hb g11 d_1_43_33 (by decide) (fun h12 => ?_) (fun h12 => ?_)
  · replace hf := gneg hf h12
    refine lv_iconst (v := iI 0) hx hb d_1_43_39 rfl ?_
    refine lv_istore (lv' := [(4, .int (iI 0)), (1, .int (iI l1)), (2, .int (iI l2)), (3, .int (iI l3))]) hx hb d_1_43_40 hl (by decide) rfl (fun ls hl => ?_)
    exact b_S_strength_42 X hf hZ hS (lv_sub hl [0, 2, 3] rfl)
  · replace hf := gpos hf h12
    refine lv_bipush (v := iI 7) hx hb d_1_43_36 (by decide) ?_
    cases hf
    exact W.iret hx hb hr (fun t ht hW => ⟨⟨_, (), rfl, rfl, by rw [ht]; exact hZ, va_K.moved hW.alike hK⟩, hS.F ht⟩) hS.2.2 d_1_43_38 hlk

def f_S_strength_9 (K : zK)  (F : zF) (B : zB) : zO := some (9, F, B)
set_option maxHeartbeats 4000000 in
set_option maxRecDepth 100000 in
theorem b_S_strength_9 {D : va_G} {ca : Nat → ClassId} {ad : Nat → Int → Nat → Nat} {L : List Nat} {aS vS : Nat → Nat} {A : Nat → Prop} {p : Program} {l : Launch} {e : Env} {s : State} {m : MethodId} {args : Array Value} {below : List Frame} {meth : Method} {c : Code} {K : zK} {r : Int} {F9 : zF} {B9 : zB} (X : zX D ca L aS vS A p s m args meth c prog_1_method_43_code 5 (Option.some Jvm.ClassFile.FieldType.int) "StaveHouse")  {F : zF} {B : zB} {H : Heap} {locs : List Loc} {ls : Array Slot} (hf : f_S_strength_9 K  F B = some (r, F9, B9)) (hZ : zH D ca ad lnC K.2 L F B A H) (hS : va_S A s.heap H locs) (hl : lv_has ls 5 []) : W p l e ({ frames := 0, cells := 0, slots := 0, locals := 0 } : Room) s m args below meth c H locs 0 0 (MQ below (Q_S_strength K D ca ad L r F9 B9 A) args s 0 0 A) (F0 m 9 ls []) := by
  obtain ⟨hx, hb, hr, hml, hown, hts, hlk, hK, hA, hL, hX⟩ := id X
  replace hf : (some (9, F, B)) = some (r, F9, B9) := hf
  refine lv_bipush (v := iI 9) hx hb d_1_43_9 (by decide) ?_
  cases hf
  exact W.iret hx hb hr (fun t ht hW => ⟨⟨_, (), rfl, rfl, by rw [ht]; exact hZ, va_K.moved hW.alike hK⟩, hS.F ht⟩) hS.2.2 d_1_43_11 hlk

def f_S_strength (K : zK) (l0 : Int) (l1 : Int) (l2 : Int) (l3 : Int) (F : zF) (B : zB) : zO := if r32 l3 then (if l3 = 0 then f_S_strength_9 K F B else if r32 l0 then (if l3 = l0 then f_S_strength_9 K F B else if ¬ iI (2 * l2) = 0 then if r32 (zrm l0 (2 * l2)) then (if (zrm l0 (2 * l2)) = 0 then if r32 (2 * l3) then (if (2 * l3) = l0 then some (8, F, B) else f_S_strength_30 K l1 l2 l3 F B) else none else f_S_strength_30 K l1 l2 l3 F B) else none else none) else none) else none
set_option maxHeartbeats 4000000 in
set_option maxRecDepth 100000 in
theorem c_S_strength {l : Launch} {D : va_G} {ca : Nat → ClassId} {ad : Nat → Int → Nat → Nat} {L : List Nat} {aS vS : Nat → Nat} {sz : Nat} {K : zK}  {l0 : Int} {l1 : Int} {l2 : Int} {l3 : Int} {F F9 : zF} {B B9 : zB} {r : Int} (hf : f_S_strength K l0 l1 l2 l3 F B = some (r, F9, B9)) : Met l ({ cls := "StaveHouse", name := "strength", desc := "(IIII)I" } : Jvm.MethodName) (Cond.code ({ cls := "StaveHouse", name := "strength", desc := "(IIII)I" } : Jvm.MethodName) prog_1_method_43_code 5 (Option.some Jvm.ClassFile.FieldType.int) :: wAll) ({ frames := 0, cells := 0, slots := 0, locals := 0 } : Room) (va_Pc [.int (iI l0), .int (iI l1), .int (iI l2), .int (iI l3)] (zPre D ca ad lnC K.2 L aS vS F B sz)) (Q_S_strength K D ca ad L r F9 B9 (zA L sz)) 0 0 (zA L sz) := by
  refine zMet (Qc := Q_S_strength K D ca ad L r F9 B9) (lv := [(0, .int (iI l0)), (1, .int (iI l1)), (2, .int (iI l2)), (3, .int (iI l3))]) (by decide) (Nat.le_of_ble_eq_true rfl) rfl (fun A p e s m below meth c ls X hZ hS hl => ?_)
  obtain ⟨hx, hb, hr, hml, hown, hts, hlk, hK, hA, hL, hX⟩ := id X
  replace hf : (if r32 l3 then (if l3 = 0 then f_S_strength_9 K F B else if r32 l0 then (if l3 = l0 then f_S_strength_9 K F B else if ¬ iI (2 * l2) = 0 then if r32 (zrm l0 (2 * l2)) then (if (zrm l0 (2 * l2)) = 0 then if r32 (2 * l3) then (if (2 * l3) = l0 then some (8, F, B) else f_S_strength_30 K l1 l2 l3 F B) else none else f_S_strength_30 K l1 l2 l3 F B) else none else none) else none) else none) = some (r, F9, B9) := hf
  refine lv_iload_n hx hb d_1_43_0 rfl (lv_at hl 3 rfl) ?_
  obtain ⟨g1, hf⟩ := gif hf
  refine z0eq (tgt := 9) hx hb g1 d_1_43_1 (by decide) (fun h2 => ?_) (fun h2 => ?_)
  · replace hf := gpos hf h2
    exact b_S_strength_9 X hf hZ hS (lv_sub hl [] rfl)
  · replace hf := gneg hf h2
    refine lv_iload_n hx hb d_1_43_4 rfl (lv_at hl 3 rfl) ?_
    refine lv_iload_n hx hb d_1_43_5 rfl (lv_at hl 0 rfl) ?_
    obtain ⟨g3, hf⟩ := gif hf
    refine zne (tgt := 12) hx hb g1 g3 d_1_43_6 (by decide) (fun h4 => ?_) (fun h4 => ?_)
    · replace hf := gneg hf h4
      refine lv_iload_n hx hb d_1_43_12 rfl (lv_at hl 0 rfl) ?_
      refine lv_iconst (v := iI 2) hx hb d_1_43_13 rfl ?_
      refine lv_iload_n hx hb d_1_43_14 rfl (lv_at hl 2 rfl) ?_
      refine zmul hx hb d_1_43_15 ?_
      obtain ⟨g5, hf⟩ := gif hf
      refine zrm_r hx hb g5 d_1_43_16 ?_
      obtain ⟨g6, hf⟩ := gif hf
      refine z0ne (tgt := 30) hx hb g6 d_1_43_17 (by decide) (fun h7 => ?_) (fun h7 => ?_)
      · replace hf := gneg hf h7
        exact b_S_strength_30 X hf hZ hS (lv_sub hl [1, 2, 3] rfl)
      · replace hf := gpos hf h7
        refine lv_iconst (v := iI 2) hx hb d_1_43_20 rfl ?_
        refine lv_iload_n hx hb d_1_43_21 rfl (lv_at hl 3 rfl) ?_
        refine zmul hx hb d_1_43_22 ?_
        refine lv_iload_n hx hb d_1_43_23 rfl (lv_at hl 0 rfl) ?_
        obtain ⟨g8, hf⟩ := gif hf
        refine zne (tgt := 30) hx hb g8 g3 d_1_43_24 (by decide) (fun h9 => ?_) (fun h9 => ?_)
        · replace hf := gneg hf h9
          exact b_S_strength_30 X hf hZ hS (lv_sub hl [1, 2, 3] rfl)
        · replace hf := gpos hf h9
          refine lv_bipush (v := iI 8) hx hb d_1_43_27 (by decide) ?_
          cases hf
          exact W.iret hx hb hr (fun t ht hW => ⟨⟨_, (), rfl, rfl, by rw [ht]; exact hZ, va_K.moved hW.alike hK⟩, hS.F ht⟩) hS.2.2 d_1_43_29 hlk
    · replace hf := gpos hf h4
      exact b_S_strength_9 X hf hZ hS (lv_sub hl [] rfl)

abbrev Q_S_strengthBetween (K : zK) (D : va_G) (ca : Nat → ClassId) (ad : Nat → Int → Nat → Nat) (L : List Nat) (r : Int) (F : zF) (B : zB) (A : Nat → Prop) : Array Value → State → Outcome → State → Prop := va_Qi (S := Unit) (fun p _ => p = iI r) (fun _ => zPo D ca ad lnC K.2 L F B A) A
def f_S_strengthBetween_44 (K : zK) : Nat → Int → Int → Int → Int → zF → zB → zO
  | 0, _, _, _, _, _, _ => none
  | n + 1, l5, l2, l3, l4, F, B => if r32 l5 then (if 5 ≤ l5 then some (1, F, B) else if ¬ iI (zshr l2 l5) = 0 then if r32 ((zdv (l4 - 1) (zshr l2 l5)) * (zshr l2 l5)) then if r32 l3 then (if ((zdv (l4 - 1) (zshr l2 l5)) * (zshr l2 l5)) ≤ l3 then f_S_strengthBetween_44 K n (l5 + 1) l2 l3 l4 F B else some (6 - l5, F, B)) else none else none else none) else none
set_option maxHeartbeats 4000000 in
set_option maxRecDepth 100000 in
theorem b_S_strengthBetween_44 {D : va_G} {ca : Nat → ClassId} {ad : Nat → Int → Nat → Nat} {L : List Nat} {aS vS : Nat → Nat} {A : Nat → Prop} {p : Program} {l : Launch} {e : Env} {s : State} {m : MethodId} {args : Array Value} {below : List Frame} {meth : Method} {c : Code} {K : zK} {r : Int} {F9 : zF} {B9 : zB} (X : zX D ca L aS vS A p s m args meth c prog_1_method_44_code 7 (Option.some Jvm.ClassFile.FieldType.int) "StaveHouse") : ∀ {n : Nat} {l5 : Int} {l2 : Int} {l3 : Int} {l4 : Int} {F : zF} {B : zB} {H : Heap} {locs : List Loc} {ls : Array Slot}, f_S_strengthBetween_44 K n l5 l2 l3 l4 F B = some (r, F9, B9) → zH D ca ad lnC K.2 L F B A H → va_S A s.heap H locs → lv_has ls 7 [(5, .int (iI l5)), (2, .int (iI l2)), (3, .int (iI l3)), (4, .int (iI l4))] → W p l e ({ frames := 0, cells := 0, slots := 0, locals := 0 } : Room) s m args below meth c H locs 0 0 (MQ below (Q_S_strengthBetween K D ca ad L r F9 B9 A) args s 0 0 A) (F0 m 44 ls []) := by
  obtain ⟨hx, hb, hr, hml, hown, hts, hlk, hK, hA, hL, hX⟩ := id X
  intro n
  induction n with
  | zero =>
    intros
    rename_i hf _ _ _
    cases hf
  | succ n ih =>
    intro l5 l2 l3 l4 F B H locs ls hf hZ hS hl
    replace hf : (if r32 l5 then (if 5 ≤ l5 then some (1, F, B) else if ¬ iI (zshr l2 l5) = 0 then if r32 ((zdv (l4 - 1) (zshr l2 l5)) * (zshr l2 l5)) then if r32 l3 then (if ((zdv (l4 - 1) (zshr l2 l5)) * (zshr l2 l5)) ≤ l3 then f_S_strengthBetween_44 K n (l5 + 1) l2 l3 l4 F B else some (6 - l5, F, B)) else none else none else none) else none) = some (r, F9, B9) := hf
    refine lv_iload hx hb d_1_44_44 (lv_at hl 0 rfl) ?_
    refine lv_iconst (v := iI 5) hx hb d_1_44_46 rfl ?_
    obtain ⟨g13, hf⟩ := gif hf
    refine zge (tgt := 82) hx hb g13 (by decide) d_1_44_47 (by decide) (fun h14 => ?_) (fun h14 => ?_)
    · replace hf := gpos hf h14
      refine lv_iconst (v := iI 1) hx hb d_1_44_82 rfl ?_
      cases hf
      exact W.iret hx hb hr (fun t ht hW => ⟨⟨_, (), rfl, rfl, by rw [ht]; exact hZ, va_K.moved hW.alike hK⟩, hS.F ht⟩) hS.2.2 d_1_44_83 hlk
    · replace hf := gneg hf h14
      refine lv_iload_n hx hb d_1_44_50 rfl (lv_at hl 1 rfl) ?_
      refine lv_iload hx hb d_1_44_51 (lv_at hl 0 rfl) ?_
      refine zshr_r hx hb d_1_44_53 ?_
      refine lv_istore (lv' := [(6, .int (iI (zshr l2 l5))), (5, .int (iI l5)), (2, .int (iI l2)), (3, .int (iI l3)), (4, .int (iI l4))]) hx hb d_1_44_54 hl (by decide) rfl (fun ls hl => ?_)
      refine lv_iload hx hb d_1_44_56 (lv_at hl 4 rfl) ?_
      refine lv_iconst (v := iI 1) hx hb d_1_44_58 rfl ?_
      refine zsub hx hb d_1_44_59 ?_
      refine lv_iload hx hb d_1_44_60 (lv_at hl 0 rfl) ?_
      obtain ⟨g15, hf⟩ := gif hf
      refine zdv_r hx hb g15 d_1_44_62 ?_
      refine lv_iload hx hb d_1_44_63 (lv_at hl 0 rfl) ?_
      refine zmul hx hb d_1_44_65 ?_
      refine lv_iload_n hx hb d_1_44_66 rfl (lv_at hl 3 rfl) ?_
      obtain ⟨g16, hf⟩ := gif hf
      obtain ⟨g17, hf⟩ := gif hf
      refine zle (tgt := 76) hx hb g16 g17 d_1_44_67 (by decide) (fun h18 => ?_) (fun h18 => ?_)
      · replace hf := gpos hf h18
        refine lv_iinc (v := iI (l5 + 1)) (lv' := [(5, .int (iI (l5 + 1))), (6, .int (iI (zshr l2 l5))), (2, .int (iI l2)), (3, .int (iI l3)), (4, .int (iI l4))]) hx hb d_1_44_76 hl (k := 1) rfl (iI_add _ 1) (by decide) rfl (fun ls hl => ?_)
        refine lv_goto (tgt := 44) hx hb d_1_44_79 (by decide) ?_
        exact ih hf hZ hS (lv_sub hl [0, 2, 3, 4] rfl)
      · replace hf := gneg hf h18
        refine lv_bipush (v := iI 6) hx hb d_1_44_70 (by decide) ?_
        refine lv_iload hx hb d_1_44_72 (lv_at hl 1 rfl) ?_
        refine zsub hx hb d_1_44_74 ?_
        cases hf
        exact W.iret hx hb hr (fun t ht hW => ⟨⟨_, (), rfl, rfl, by rw [ht]; exact hZ, va_K.moved hW.alike hK⟩, hS.F ht⟩) hS.2.2 d_1_44_75 hlk

def f_S_strengthBetween_26 (K : zK) (l1 : Int) (l2 : Int) (l3 : Int) (l4 : Int) (F : zF) (B : zB) : zO := if ¬ iI l1 = 0 then if r32 ((zdv (l4 - 1) l1) * l1) then if r32 l3 then (if ((zdv (l4 - 1) l1) * l1) ≤ l3 then f_S_strengthBetween_44 K K.1 0 l2 l3 l4 F B else some (7, F, B)) else none else none else none
set_option maxHeartbeats 4000000 in
set_option maxRecDepth 100000 in
theorem b_S_strengthBetween_26 {D : va_G} {ca : Nat → ClassId} {ad : Nat → Int → Nat → Nat} {L : List Nat} {aS vS : Nat → Nat} {A : Nat → Prop} {p : Program} {l : Launch} {e : Env} {s : State} {m : MethodId} {args : Array Value} {below : List Frame} {meth : Method} {c : Code} {K : zK} {r : Int} {F9 : zF} {B9 : zB} (X : zX D ca L aS vS A p s m args meth c prog_1_method_44_code 7 (Option.some Jvm.ClassFile.FieldType.int) "StaveHouse") {l1 : Int} {l2 : Int} {l3 : Int} {l4 : Int} {F : zF} {B : zB} {H : Heap} {locs : List Loc} {ls : Array Slot} (hf : f_S_strengthBetween_26 K l1 l2 l3 l4 F B = some (r, F9, B9)) (hZ : zH D ca ad lnC K.2 L F B A H) (hS : va_S A s.heap H locs) (hl : lv_has ls 7 [(1, .int (iI l1)), (2, .int (iI l2)), (3, .int (iI l3)), (4, .int (iI l4))]) : W p l e ({ frames := 0, cells := 0, slots := 0, locals := 0 } : Room) s m args below meth c H locs 0 0 (MQ below (Q_S_strengthBetween K D ca ad L r F9 B9 A) args s 0 0 A) (F0 m 26 ls []) := by
  obtain ⟨hx, hb, hr, hml, hown, hts, hlk, hK, hA, hL, hX⟩ := id X
  replace hf : (if ¬ iI l1 = 0 then if r32 ((zdv (l4 - 1) l1) * l1) then if r32 l3 then (if ((zdv (l4 - 1) l1) * l1) ≤ l3 then f_S_strengthBetween_44 K K.1 0 l2 l3 l4 F B else some (7, F, B)) else none else none else none) = some (r, F9, B9) := hf
  refine lv_iload hx hb d_1_44_26 (lv_at hl 3 rfl) ?_
  refine lv_iconst (v := iI 1) hx hb d_1_44_28 rfl ?_
  refine zsub hx hb d_1_44_29 ?_
  refine lv_iload_n hx hb d_1_44_30 rfl (lv_at hl 0 rfl) ?_
  obtain ⟨g9, hf⟩ := gif hf
  refine zdv_r hx hb g9 d_1_44_31 ?_
  refine lv_iload_n hx hb d_1_44_32 rfl (lv_at hl 0 rfl) ?_
  refine zmul hx hb d_1_44_33 ?_
  refine lv_iload_n hx hb d_1_44_34 rfl (lv_at hl 2 rfl) ?_
  obtain ⟨g10, hf⟩ := gif hf
  obtain ⟨g11, hf⟩ := gif hf
  refine zle (tgt := 41) hx hb g10 g11 d_1_44_35 (by decide) (fun h12 => ?_) (fun h12 => ?_)
  · replace hf := gpos hf h12
    refine lv_iconst (v := iI 0) hx hb d_1_44_41 rfl ?_
    refine lv_istore (lv' := [(5, .int (iI 0)), (1, .int (iI l1)), (2, .int (iI l2)), (3, .int (iI l3)), (4, .int (iI l4))]) hx hb d_1_44_42 hl (by decide) rfl (fun ls hl => ?_)
    exact b_S_strengthBetween_44 X hf hZ hS (lv_sub hl [0, 2, 3, 4] rfl)
  · replace hf := gneg hf h12
    refine lv_bipush (v := iI 7) hx hb d_1_44_38 (by decide) ?_
    cases hf
    exact W.iret hx hb hr (fun t ht hW => ⟨⟨_, (), rfl, rfl, by rw [ht]; exact hZ, va_K.moved hW.alike hK⟩, hS.F ht⟩) hS.2.2 d_1_44_40 hlk

def f_S_strengthBetween (K : zK) (l0 : Int) (l1 : Int) (l2 : Int) (l3 : Int) (l4 : Int) (F : zF) (B : zB) : zO := if ¬ iI (2 * l2) = 0 then if r32 (zrm l0 (2 * l2)) then (if (zrm l0 (2 * l2)) = 0 then if r32 (2 * l3) then if r32 l0 then (if l0 ≤ (2 * l3) then f_S_strengthBetween_26 K l1 l2 l3 l4 F B else if r32 (2 * l4) then (if (2 * l4) ≤ l0 then f_S_strengthBetween_26 K l1 l2 l3 l4 F B else some (8, F, B)) else none) else none else none else f_S_strengthBetween_26 K l1 l2 l3 l4 F B) else none else none
set_option maxHeartbeats 4000000 in
set_option maxRecDepth 100000 in
theorem c_S_strengthBetween {l : Launch} {D : va_G} {ca : Nat → ClassId} {ad : Nat → Int → Nat → Nat} {L : List Nat} {aS vS : Nat → Nat} {sz : Nat} {K : zK}  {l0 : Int} {l1 : Int} {l2 : Int} {l3 : Int} {l4 : Int} {F F9 : zF} {B B9 : zB} {r : Int} (hf : f_S_strengthBetween K l0 l1 l2 l3 l4 F B = some (r, F9, B9)) : Met l ({ cls := "StaveHouse", name := "strengthBetween", desc := "(IIIII)I" } : Jvm.MethodName) (Cond.code ({ cls := "StaveHouse", name := "strengthBetween", desc := "(IIIII)I" } : Jvm.MethodName) prog_1_method_44_code 7 (Option.some Jvm.ClassFile.FieldType.int) :: wAll) ({ frames := 0, cells := 0, slots := 0, locals := 0 } : Room) (va_Pc [.int (iI l0), .int (iI l1), .int (iI l2), .int (iI l3), .int (iI l4)] (zPre D ca ad lnC K.2 L aS vS F B sz)) (Q_S_strengthBetween K D ca ad L r F9 B9 (zA L sz)) 0 0 (zA L sz) := by
  refine zMet (Qc := Q_S_strengthBetween K D ca ad L r F9 B9) (lv := [(0, .int (iI l0)), (1, .int (iI l1)), (2, .int (iI l2)), (3, .int (iI l3)), (4, .int (iI l4))]) (by decide) (Nat.le_of_ble_eq_true rfl) rfl (fun A p e s m below meth c ls X hZ hS hl => ?_)
  obtain ⟨hx, hb, hr, hml, hown, hts, hlk, hK, hA, hL, hX⟩ := id X
  replace hf : (if ¬ iI (2 * l2) = 0 then if r32 (zrm l0 (2 * l2)) then (if (zrm l0 (2 * l2)) = 0 then if r32 (2 * l3) then if r32 l0 then (if l0 ≤ (2 * l3) then f_S_strengthBetween_26 K l1 l2 l3 l4 F B else if r32 (2 * l4) then (if (2 * l4) ≤ l0 then f_S_strengthBetween_26 K l1 l2 l3 l4 F B else some (8, F, B)) else none) else none else none else f_S_strengthBetween_26 K l1 l2 l3 l4 F B) else none else none) = some (r, F9, B9) := hf
  refine lv_iload_n hx hb d_1_44_0 rfl (lv_at hl 0 rfl) ?_
  refine lv_iconst (v := iI 2) hx hb d_1_44_1 rfl ?_
  refine lv_iload_n hx hb d_1_44_2 rfl (lv_at hl 2 rfl) ?_
  refine zmul hx hb d_1_44_3 ?_
  obtain ⟨g1, hf⟩ := gif hf
  refine zrm_r hx hb g1 d_1_44_4 ?_
  obtain ⟨g2, hf⟩ := gif hf
  refine z0ne (tgt := 26) hx hb g2 d_1_44_5 (by decide) (fun h3 => ?_) (fun h3 => ?_)
  · replace hf := gneg hf h3
    exact b_S_strengthBetween_26 X hf hZ hS (lv_sub hl [1, 2, 3, 4] rfl)
  · replace hf := gpos hf h3
    refine lv_iconst (v := iI 2) hx hb d_1_44_8 rfl ?_
    refine lv_iload_n hx hb d_1_44_9 rfl (lv_at hl 3 rfl) ?_
    refine zmul hx hb d_1_44_10 ?_
    refine lv_iload_n hx hb d_1_44_11 rfl (lv_at hl 0 rfl) ?_
    obtain ⟨g4, hf⟩ := gif hf
    obtain ⟨g5, hf⟩ := gif hf
    refine zge (tgt := 26) hx hb g4 g5 d_1_44_12 (by decide) (fun h6 => ?_) (fun h6 => ?_)
    · replace hf := gpos hf h6
      exact b_S_strengthBetween_26 X hf hZ hS (lv_sub hl [1, 2, 3, 4] rfl)
    · replace hf := gneg hf h6
      refine lv_iload_n hx hb d_1_44_15 rfl (lv_at hl 0 rfl) ?_
      refine lv_iconst (v := iI 2) hx hb d_1_44_16 rfl ?_
      refine lv_iload hx hb d_1_44_17 (lv_at hl 4 rfl) ?_
      refine zmul hx hb d_1_44_19 ?_
      obtain ⟨g7, hf⟩ := gif hf
      refine zge (tgt := 26) hx hb g5 g7 d_1_44_20 (by decide) (fun h8 => ?_) (fun h8 => ?_)
      · replace hf := gpos hf h8
        exact b_S_strengthBetween_26 X hf hZ hS (lv_sub hl [1, 2, 3, 4] rfl)
      · replace hf := gneg hf h8
        refine lv_bipush (v := iI 8) hx hb d_1_44_23 (by decide) ?_
        cases hf
        exact W.iret hx hb hr (fun t ht hW => ⟨⟨_, (), rfl, rfl, by rw [ht]; exact hZ, va_K.moved hW.alike hK⟩, hS.F ht⟩) hS.2.2 d_1_44_25 hlk

abbrev Q_Part_isRestNote (K : zK) (D : va_G) (ca : Nat → ClassId) (ad : Nat → Int → Nat → Nat) (L : List Nat) (r : Int) (F : zF) (B : zB) (A : Nat → Prop) : Array Value → State → Outcome → State → Prop := va_Qi (S := Unit) (fun p _ => p = iI r) (fun _ => zPo D ca ad lnC K.2 L F B A) A
def f_Part_isRestNote_38 (K : zK) (s0 : Int) (F : zF) (B : zB) : zO := if (s0 = 0 ∨ s0 = 1) then some (s0, F, B) else none
set_option maxHeartbeats 4000000 in
set_option maxRecDepth 100000 in
theorem b_Part_isRestNote_38 {D : va_G} {ca : Nat → ClassId} {ad : Nat → Int → Nat → Nat} {L : List Nat} {aS vS : Nat → Nat} {A : Nat → Prop} {p : Program} {l : Launch} {e : Env} {s : State} {m : MethodId} {args : Array Value} {below : List Frame} {meth : Method} {c : Code} {K : zK} {r : Int} {F9 : zF} {B9 : zB} (X : zX D ca L aS vS A p s m args meth c prog_6_method_14_code 3 (Option.some Jvm.ClassFile.FieldType.boolean) "StaveHouse$Part") {s0 : Int} {F : zF} {B : zB} {H : Heap} {locs : List Loc} {ls : Array Slot} (hf : f_Part_isRestNote_38 K s0 F B = some (r, F9, B9)) (hZ : zH D ca ad lnC K.2 L F B A H) (hS : va_S A s.heap H locs) (hl : lv_has ls 3 []) : W p l e ({ frames := 0, cells := 0, slots := 0, locals := 0 } : Room) s m args below meth c H locs 0 0 (MQ below (Q_Part_isRestNote K D ca ad L r F9 B9 A) args s 0 0 A) (F0 m 38 ls [.int (iI s0)]) := by
  obtain ⟨hx, hb, hr, hml, hown, hts, hlk, hK, hA, hL, hX⟩ := id X
  replace hf : (if (s0 = 0 ∨ s0 = 1) then some (s0, F, B) else none) = some (r, F9, B9) := hf
  obtain ⟨g11, hf⟩ := gif hf
  cases hf
  exact W.zret hx hb hr (zbool g11) (fun t ht hW => ⟨⟨_, (), rfl, rfl, by rw [ht]; exact hZ, va_K.moved hW.alike hK⟩, hS.F ht⟩) hS.2.2 d_6_14_38 hlk

def f_Part_isRestNote_33 (K : zK)  (F : zF) (B : zB) : zO := f_Part_isRestNote_38 K 1 F B
set_option maxHeartbeats 4000000 in
set_option maxRecDepth 100000 in
theorem b_Part_isRestNote_33 {D : va_G} {ca : Nat → ClassId} {ad : Nat → Int → Nat → Nat} {L : List Nat} {aS vS : Nat → Nat} {A : Nat → Prop} {p : Program} {l : Launch} {e : Env} {s : State} {m : MethodId} {args : Array Value} {below : List Frame} {meth : Method} {c : Code} {K : zK} {r : Int} {F9 : zF} {B9 : zB} (X : zX D ca L aS vS A p s m args meth c prog_6_method_14_code 3 (Option.some Jvm.ClassFile.FieldType.boolean) "StaveHouse$Part")  {F : zF} {B : zB} {H : Heap} {locs : List Loc} {ls : Array Slot} (hf : f_Part_isRestNote_33 K  F B = some (r, F9, B9)) (hZ : zH D ca ad lnC K.2 L F B A H) (hS : va_S A s.heap H locs) (hl : lv_has ls 3 []) : W p l e ({ frames := 0, cells := 0, slots := 0, locals := 0 } : Room) s m args below meth c H locs 0 0 (MQ below (Q_Part_isRestNote K D ca ad L r F9 B9 A) args s 0 0 A) (F0 m 33 ls []) := by
  obtain ⟨hx, hb, hr, hml, hown, hts, hlk, hK, hA, hL, hX⟩ := id X
  replace hf : (f_Part_isRestNote_38 K 1 F B) = some (r, F9, B9) := hf
  refine lv_iconst (v := iI 1) hx hb d_6_14_33 rfl ?_
  refine lv_goto (tgt := 38) hx hb d_6_14_34 (by decide) ?_
  exact b_Part_isRestNote_38 X hf hZ hS (lv_sub hl [] rfl)

def f_Part_isRestNote (K : zK) (l0 : Int) (l1 : Int) (F : zF) (B : zB) : zO := if 0 ≤ l0 ∧ l0 < K.2 4 then if 0 ≤ l1 ∧ l1 < 800 then if r32 (B 4 l0 360 l1) then (if (B 4 l0 360 l1) < 0 then f_Part_isRestNote_33 K F B else if r32 (F 4 l0 6) then (if (F 4 l0 6) ≤ (B 4 l0 360 l1) then f_Part_isRestNote_33 K F B else if 0 ≤ (B 4 l0 360 l1) ∧ (B 4 l0 360 l1) < 200 then if 0 ≤ (B 4 l0 5 (B 4 l0 360 l1)) ∧ (B 4 l0 5 (B 4 l0 360 l1)) < K.2 1 then if r32 (F 1 (B 4 l0 5 (B 4 l0 360 l1)) 10) then (if (F 1 (B 4 l0 5 (B 4 l0 360 l1)) 10) = 0 then f_Part_isRestNote_33 K F B else f_Part_isRestNote_38 K 0 F B) else none else none else none) else none) else none else none else none
set_option maxHeartbeats 4000000 in
set_option maxRecDepth 100000 in
theorem c_Part_isRestNote {l : Launch} {D : va_G} {ca : Nat → ClassId} {ad : Nat → Int → Nat → Nat} {L : List Nat} {aS vS : Nat → Nat} {sz : Nat} {K : zK}  {l0 : Int} {l1 : Int} {F F9 : zF} {B B9 : zB} {r : Int} (hf : f_Part_isRestNote K l0 l1 F B = some (r, F9, B9)) : Met l ({ cls := "StaveHouse$Part", name := "isRestNote", desc := "(I)Z" } : Jvm.MethodName) (Cond.code ({ cls := "StaveHouse$Part", name := "isRestNote", desc := "(I)Z" } : Jvm.MethodName) prog_6_method_14_code 3 (Option.some Jvm.ClassFile.FieldType.boolean) :: wAll) ({ frames := 0, cells := 0, slots := 0, locals := 0 } : Room) (va_Pc [.ref (ad 4 l0 0), .int (iI l1)] (zPre D ca ad lnC K.2 L aS vS F B sz)) (Q_Part_isRestNote K D ca ad L r F9 B9 (zA L sz)) 0 0 (zA L sz) := by
  refine zMet (Qc := Q_Part_isRestNote K D ca ad L r F9 B9) (lv := [(0, .ref (ad 4 l0 0)), (1, .int (iI l1))]) (by decide) (Nat.le_of_ble_eq_true rfl) rfl (fun A p e s m below meth c ls X hZ hS hl => ?_)
  obtain ⟨hx, hb, hr, hml, hown, hts, hlk, hK, hA, hL, hX⟩ := id X
  replace hf : (if 0 ≤ l0 ∧ l0 < K.2 4 then if 0 ≤ l1 ∧ l1 < 800 then if r32 (B 4 l0 360 l1) then (if (B 4 l0 360 l1) < 0 then f_Part_isRestNote_33 K F B else if r32 (F 4 l0 6) then (if (F 4 l0 6) ≤ (B 4 l0 360 l1) then f_Part_isRestNote_33 K F B else if 0 ≤ (B 4 l0 360 l1) ∧ (B 4 l0 360 l1) < 200 then if 0 ≤ (B 4 l0 5 (B 4 l0 360 l1)) ∧ (B 4 l0 5 (B 4 l0 360 l1)) < K.2 1 then if r32 (F 1 (B 4 l0 5 (B 4 l0 360 l1)) 10) then (if (F 1 (B 4 l0 5 (B 4 l0 360 l1)) 10) = 0 then f_Part_isRestNote_33 K F B else f_Part_isRestNote_38 K 0 F B) else none else none else none) else none) else none else none else none) = some (r, F9, B9) := hf
  refine lv_aload_n hx hb d_6_14_0 rfl (lv_at hl 0 rfl) ?_
  obtain ⟨g1, hf⟩ := gif hf
  refine zget (ci := 4) (C := RX4) (T := TX4) (v := .ref (ad 4 l0 (8 + 1))) (k := 8) hx hb hts inW_4 hown hK hZ g1.1 g1.2 rfl (by decide) k_4_142 rfl d_6_14_1 ?_
  refine lv_iconst (v := iI 0) hx hb d_6_14_4 rfl ?_
  refine zaldQ (t := 0) (ci := 4) (k := 8) hx hb hK rfl hZ g1.1 g1.2 rfl (Nat.le_of_ble_eq_true rfl) (by decide) (by decide) d_6_14_5 ?_
  refine W.eq (g2 := F0 m 6 ls [.ref (ad 4 l0 (360 + 1))]) rfl ?_
  refine lv_iload_n hx hb d_6_14_6 rfl (lv_at hl 1 rfl) ?_
  obtain ⟨g2, hf⟩ := gif hf
  refine zald (ci := 4) (k := 360) hx hb hK rfl hZ g1.1 g1.2 rfl (Nat.le_of_ble_eq_true rfl) g2.1 g2.2 d_6_14_7 ?_
  refine lv_istore_n (lv' := [(2, .int (iI (B 4 l0 360 l1))), (0, .ref (ad 4 l0 0)), (1, .int (iI l1))]) hx hb d_6_14_8 rfl hl (by decide) rfl (fun ls hl => ?_)
  refine lv_iload_n hx hb d_6_14_9 rfl (lv_at hl 0 rfl) ?_
  obtain ⟨g3, hf⟩ := gif hf
  refine z0lt (tgt := 33) hx hb g3 d_6_14_10 (by decide) (fun h4 => ?_) (fun h4 => ?_)
  · replace hf := gpos hf h4
    exact b_Part_isRestNote_33 X hf hZ hS (lv_sub hl [] rfl)
  · replace hf := gneg hf h4
    refine lv_iload_n hx hb d_6_14_13 rfl (lv_at hl 0 rfl) ?_
    refine lv_aload_n hx hb d_6_14_14 rfl (lv_at hl 1 rfl) ?_
    refine zget (ci := 4) (C := RX4) (T := TX4) (v := .int (iI (F 4 l0 6))) (k := 6) hx hb hts inW_4 hown hK hZ g1.1 g1.2 rfl (by decide) k_4_135 rfl d_6_14_15 ?_
    obtain ⟨g5, hf⟩ := gif hf
    refine zge (tgt := 33) hx hb g3 g5 d_6_14_18 (by decide) (fun h6 => ?_) (fun h6 => ?_)
    · replace hf := gpos hf h6
      exact b_Part_isRestNote_33 X hf hZ hS (lv_sub hl [] rfl)
    · replace hf := gneg hf h6
      refine lv_aload_n hx hb d_6_14_21 rfl (lv_at hl 1 rfl) ?_
      refine zget (ci := 4) (C := RX4) (T := TX4) (v := .ref (ad 4 l0 (5 + 1))) (k := 5) hx hb hts inW_4 hown hK hZ g1.1 g1.2 rfl (by decide) k_4_130 rfl d_6_14_22 ?_
      refine lv_iload_n hx hb d_6_14_25 rfl (lv_at hl 0 rfl) ?_
      obtain ⟨g7, hf⟩ := gif hf
      refine zaldR (t := 1) (x := 7) (ci := 4) (k := 5) hx hb hK rfl rfl hZ g1.1 g1.2 rfl (Nat.le_of_ble_eq_true rfl) g7.1 g7.2 d_6_14_26 ?_
      obtain ⟨g8, hf⟩ := gif hf
      refine zunrf g8.1 ?_
      refine zget (ci := 1) (C := RX1) (T := TX1) (v := .int (iI (F 1 (B 4 l0 5 (B 4 l0 360 l1)) 10))) (k := 10) hx hb hts inW_1 hown hK hZ g8.1 g8.2 rfl (by decide) k_2_54 rfl d_6_14_27 ?_
      obtain ⟨g9, hf⟩ := gif hf
      refine z0ne (tgt := 37) hx hb g9 d_6_14_30 (by decide) (fun h10 => ?_) (fun h10 => ?_)
      · replace hf := gneg hf h10
        refine lv_iconst (v := iI 0) hx hb d_6_14_37 rfl ?_
        exact b_Part_isRestNote_38 X hf hZ hS (lv_sub hl [] rfl)
      · replace hf := gpos hf h10
        exact b_Part_isRestNote_33 X hf hZ hS (lv_sub hl [] rfl)

abbrev Q_Part_continues (K : zK) (D : va_G) (ca : Nat → ClassId) (ad : Nat → Int → Nat → Nat) (L : List Nat) (r : Int) (F : zF) (B : zB) (A : Nat → Prop) : Array Value → State → Outcome → State → Prop := va_Qi (S := Unit) (fun p _ => p = iI r) (fun _ => zPo D ca ad lnC K.2 L F B A) A
def f_Part_continues_38 (K : zK) (s0 : Int) (F : zF) (B : zB) : zO := if (s0 = 0 ∨ s0 = 1) then some (s0, F, B) else none
set_option maxHeartbeats 4000000 in
set_option maxRecDepth 100000 in
theorem b_Part_continues_38 {D : va_G} {ca : Nat → ClassId} {ad : Nat → Int → Nat → Nat} {L : List Nat} {aS vS : Nat → Nat} {A : Nat → Prop} {p : Program} {l : Launch} {e : Env} {s : State} {m : MethodId} {args : Array Value} {below : List Frame} {meth : Method} {c : Code} {K : zK} {r : Int} {F9 : zF} {B9 : zB} (X : zX D ca L aS vS A p s m args meth c prog_6_method_15_code 2 (Option.some Jvm.ClassFile.FieldType.boolean) "StaveHouse$Part") {s0 : Int} {F : zF} {B : zB} {H : Heap} {locs : List Loc} {ls : Array Slot} (hf : f_Part_continues_38 K s0 F B = some (r, F9, B9)) (hZ : zH D ca ad lnC K.2 L F B A H) (hS : va_S A s.heap H locs) (hl : lv_has ls 2 []) : W p l e ({ frames := 0, cells := 0, slots := 0, locals := 0 } : Room) s m args below meth c H locs 0 0 (MQ below (Q_Part_continues K D ca ad L r F9 B9 A) args s 0 0 A) (F0 m 38 ls [.int (iI s0)]) := by
  obtain ⟨hx, hb, hr, hml, hown, hts, hlk, hK, hA, hL, hX⟩ := id X
  replace hf : (if (s0 = 0 ∨ s0 = 1) then some (s0, F, B) else none) = some (r, F9, B9) := hf
  obtain ⟨g11, hf⟩ := gif hf
  cases hf
  exact W.zret hx hb hr (zbool g11) (fun t ht hW => ⟨⟨_, (), rfl, rfl, by rw [ht]; exact hZ, va_K.moved hW.alike hK⟩, hS.F ht⟩) hS.2.2 d_6_15_38 hlk

def f_Part_continues_37 (K : zK)  (F : zF) (B : zB) : zO := f_Part_continues_38 K 0 F B
set_option maxHeartbeats 4000000 in
set_option maxRecDepth 100000 in
theorem b_Part_continues_37 {D : va_G} {ca : Nat → ClassId} {ad : Nat → Int → Nat → Nat} {L : List Nat} {aS vS : Nat → Nat} {A : Nat → Prop} {p : Program} {l : Launch} {e : Env} {s : State} {m : MethodId} {args : Array Value} {below : List Frame} {meth : Method} {c : Code} {K : zK} {r : Int} {F9 : zF} {B9 : zB} (X : zX D ca L aS vS A p s m args meth c prog_6_method_15_code 2 (Option.some Jvm.ClassFile.FieldType.boolean) "StaveHouse$Part")  {F : zF} {B : zB} {H : Heap} {locs : List Loc} {ls : Array Slot} (hf : f_Part_continues_37 K  F B = some (r, F9, B9)) (hZ : zH D ca ad lnC K.2 L F B A H) (hS : va_S A s.heap H locs) (hl : lv_has ls 2 []) : W p l e ({ frames := 0, cells := 0, slots := 0, locals := 0 } : Room) s m args below meth c H locs 0 0 (MQ below (Q_Part_continues K D ca ad L r F9 B9 A) args s 0 0 A) (F0 m 37 ls []) := by
  obtain ⟨hx, hb, hr, hml, hown, hts, hlk, hK, hA, hL, hX⟩ := id X
  replace hf : (f_Part_continues_38 K 0 F B) = some (r, F9, B9) := hf
  refine lv_iconst (v := iI 0) hx hb d_6_15_37 rfl ?_
  exact b_Part_continues_38 X hf hZ hS (lv_sub hl [] rfl)

def f_Part_continues (K : zK) (l0 : Int) (l1 : Int) (F : zF) (B : zB) : zO := if r32 l1 then (if l1 ≤ 0 then f_Part_continues_37 K F B else if 0 ≤ l0 ∧ l0 < K.2 4 then if r32 (F 4 l0 10) then (if (F 4 l0 10) ≤ l1 then f_Part_continues_37 K F B else if 0 ≤ l1 ∧ l1 < 800 then if 0 ≤ (l1 - 1) ∧ (l1 - 1) < 800 then if r32 (B 4 l0 360 l1) then if r32 (B 4 l0 360 (l1 - 1)) then (if (B 4 l0 360 l1) = (B 4 l0 360 (l1 - 1)) then f_Part_continues_38 K 1 F B else f_Part_continues_37 K F B) else none else none else none else none) else none else none) else none
set_option maxHeartbeats 4000000 in
set_option maxRecDepth 100000 in
theorem c_Part_continues {l : Launch} {D : va_G} {ca : Nat → ClassId} {ad : Nat → Int → Nat → Nat} {L : List Nat} {aS vS : Nat → Nat} {sz : Nat} {K : zK}  {l0 : Int} {l1 : Int} {F F9 : zF} {B B9 : zB} {r : Int} (hf : f_Part_continues K l0 l1 F B = some (r, F9, B9)) : Met l ({ cls := "StaveHouse$Part", name := "continues", desc := "(I)Z" } : Jvm.MethodName) (Cond.code ({ cls := "StaveHouse$Part", name := "continues", desc := "(I)Z" } : Jvm.MethodName) prog_6_method_15_code 2 (Option.some Jvm.ClassFile.FieldType.boolean) :: wAll) ({ frames := 0, cells := 0, slots := 0, locals := 0 } : Room) (va_Pc [.ref (ad 4 l0 0), .int (iI l1)] (zPre D ca ad lnC K.2 L aS vS F B sz)) (Q_Part_continues K D ca ad L r F9 B9 (zA L sz)) 0 0 (zA L sz) := by
  refine zMet (Qc := Q_Part_continues K D ca ad L r F9 B9) (lv := [(0, .ref (ad 4 l0 0)), (1, .int (iI l1))]) (by decide) (Nat.le_of_ble_eq_true rfl) rfl (fun A p e s m below meth c ls X hZ hS hl => ?_)
  obtain ⟨hx, hb, hr, hml, hown, hts, hlk, hK, hA, hL, hX⟩ := id X
  replace hf : (if r32 l1 then (if l1 ≤ 0 then f_Part_continues_37 K F B else if 0 ≤ l0 ∧ l0 < K.2 4 then if r32 (F 4 l0 10) then (if (F 4 l0 10) ≤ l1 then f_Part_continues_37 K F B else if 0 ≤ l1 ∧ l1 < 800 then if 0 ≤ (l1 - 1) ∧ (l1 - 1) < 800 then if r32 (B 4 l0 360 l1) then if r32 (B 4 l0 360 (l1 - 1)) then (if (B 4 l0 360 l1) = (B 4 l0 360 (l1 - 1)) then f_Part_continues_38 K 1 F B else f_Part_continues_37 K F B) else none else none else none else none) else none else none) else none) = some (r, F9, B9) := hf
  refine lv_iload_n hx hb d_6_15_0 rfl (lv_at hl 1 rfl) ?_
  obtain ⟨g1, hf⟩ := gif hf
  refine z0le (tgt := 37) hx hb g1 d_6_15_1 (by decide) (fun h2 => ?_) (fun h2 => ?_)
  · replace hf := gpos hf h2
    exact b_Part_continues_37 X hf hZ hS (lv_sub hl [] rfl)
  · replace hf := gneg hf h2
    refine lv_iload_n hx hb d_6_15_4 rfl (lv_at hl 1 rfl) ?_
    refine lv_aload_n hx hb d_6_15_5 rfl (lv_at hl 0 rfl) ?_
    obtain ⟨g3, hf⟩ := gif hf
    refine zget (ci := 4) (C := RX4) (T := TX4) (v := .int (iI (F 4 l0 10))) (k := 10) hx hb hts inW_4 hown hK hZ g3.1 g3.2 rfl (by decide) k_4_148 rfl d_6_15_6 ?_
    obtain ⟨g4, hf⟩ := gif hf
    refine zge (tgt := 37) hx hb g1 g4 d_6_15_9 (by decide) (fun h5 => ?_) (fun h5 => ?_)
    · replace hf := gpos hf h5
      exact b_Part_continues_37 X hf hZ hS (lv_sub hl [] rfl)
    · replace hf := gneg hf h5
      refine lv_aload_n hx hb d_6_15_12 rfl (lv_at hl 0 rfl) ?_
      refine zget (ci := 4) (C := RX4) (T := TX4) (v := .ref (ad 4 l0 (8 + 1))) (k := 8) hx hb hts inW_4 hown hK hZ g3.1 g3.2 rfl (by decide) k_4_142 rfl d_6_15_13 ?_
      refine lv_iconst (v := iI 0) hx hb d_6_15_16 rfl ?_
      refine zaldQ (t := 0) (ci := 4) (k := 8) hx hb hK rfl hZ g3.1 g3.2 rfl (Nat.le_of_ble_eq_true rfl) (by decide) (by decide) d_6_15_17 ?_
      refine W.eq (g2 := F0 m 18 ls [.ref (ad 4 l0 (360 + 1))]) rfl ?_
      refine lv_iload_n hx hb d_6_15_18 rfl (lv_at hl 1 rfl) ?_
      obtain ⟨g6, hf⟩ := gif hf
      refine zald (ci := 4) (k := 360) hx hb hK rfl hZ g3.1 g3.2 rfl (Nat.le_of_ble_eq_true rfl) g6.1 g6.2 d_6_15_19 ?_
      refine lv_aload_n hx hb d_6_15_20 rfl (lv_at hl 0 rfl) ?_
      refine zget (ci := 4) (C := RX4) (T := TX4) (v := .ref (ad 4 l0 (8 + 1))) (k := 8) hx hb hts inW_4 hown hK hZ g3.1 g3.2 rfl (by decide) k_4_142 rfl d_6_15_21 ?_
      refine lv_iconst (v := iI 0) hx hb d_6_15_24 rfl ?_
      refine zaldQ (t := 0) (ci := 4) (k := 8) hx hb hK rfl hZ g3.1 g3.2 rfl (Nat.le_of_ble_eq_true rfl) (by decide) (by decide) d_6_15_25 ?_
      refine W.eq (g2 := F0 m 26 ls [.ref (ad 4 l0 (360 + 1)), .int (iI (B 4 l0 360 l1))]) rfl ?_
      refine lv_iload_n hx hb d_6_15_26 rfl (lv_at hl 1 rfl) ?_
      refine lv_iconst (v := iI 1) hx hb d_6_15_27 rfl ?_
      refine zsub hx hb d_6_15_28 ?_
      obtain ⟨g7, hf⟩ := gif hf
      refine zald (ci := 4) (k := 360) hx hb hK rfl hZ g3.1 g3.2 rfl (Nat.le_of_ble_eq_true rfl) g7.1 g7.2 d_6_15_29 ?_
      obtain ⟨g8, hf⟩ := gif hf
      obtain ⟨g9, hf⟩ := gif hf
      refine zne (tgt := 37) hx hb g8 g9 d_6_15_30 (by decide) (fun h10 => ?_) (fun h10 => ?_)
      · replace hf := gneg hf h10
        exact b_Part_continues_37 X hf hZ hS (lv_sub hl [] rfl)
      · replace hf := gpos hf h10
        refine lv_iconst (v := iI 1) hx hb d_6_15_33 rfl ?_
        refine lv_goto (tgt := 38) hx hb d_6_15_34 (by decide) ?_
        exact b_Part_continues_38 X hf hZ hS (lv_sub hl [] rfl)

abbrev Q_S_keyAlteration (K : zK) (D : va_G) (ca : Nat → ClassId) (ad : Nat → Int → Nat → Nat) (L : List Nat) (r : Int) (F : zF) (B : zB) (A : Nat → Prop) : Array Value → State → Outcome → State → Prop := va_Qi (S := Unit) (fun p _ => p = iI r) (fun _ => zPo D ca ad lnC K.2 L F B A) A
def f_S_keyAlteration_40 (K : zK) (s0 : Int) (F : zF) (B : zB) : zO := some (s0, F, B)
set_option maxHeartbeats 4000000 in
set_option maxRecDepth 100000 in
theorem b_S_keyAlteration_40 {D : va_G} {ca : Nat → ClassId} {ad : Nat → Int → Nat → Nat} {L : List Nat} {aS vS : Nat → Nat} {A : Nat → Prop} {p : Program} {l : Launch} {e : Env} {s : State} {m : MethodId} {args : Array Value} {below : List Frame} {meth : Method} {c : Code} {K : zK} {r : Int} {F9 : zF} {B9 : zB} (X : zX D ca L aS vS A p s m args meth c prog_1_method_38_code 3 (Option.some Jvm.ClassFile.FieldType.int) "StaveHouse") {s0 : Int} {F : zF} {B : zB} {H : Heap} {locs : List Loc} {ls : Array Slot} (hf : f_S_keyAlteration_40 K s0 F B = some (r, F9, B9)) (hZ : zH D ca ad lnC K.2 L F B A H) (hS : va_S A s.heap H locs) (hl : lv_has ls 3 []) : W p l e ({ frames := 1, cells := 0, slots := 0, locals := 22 } : Room) s m args below meth c H locs 0 0 (MQ below (Q_S_keyAlteration K D ca ad L r F9 B9 A) args s 0 0 A) (F0 m 40 ls [.int (iI s0)]) := by
  obtain ⟨hx, hb, hr, hml, hown, hts, hlk, hK, hA, hL, hX⟩ := id X
  replace hf : (some (s0, F, B)) = some (r, F9, B9) := hf
  cases hf
  exact W.iret hx hb hr (fun t ht hW => ⟨⟨_, (), rfl, rfl, by rw [ht]; exact hZ, va_K.moved hW.alike hK⟩, hS.F ht⟩) hS.2.2 d_1_38_40 hlk

def f_S_keyAlteration_25 (K : zK) (s0 : Int) (F : zF) (B : zB) : zO := some (s0, F, B)
set_option maxHeartbeats 4000000 in
set_option maxRecDepth 100000 in
theorem b_S_keyAlteration_25 {D : va_G} {ca : Nat → ClassId} {ad : Nat → Int → Nat → Nat} {L : List Nat} {aS vS : Nat → Nat} {A : Nat → Prop} {p : Program} {l : Launch} {e : Env} {s : State} {m : MethodId} {args : Array Value} {below : List Frame} {meth : Method} {c : Code} {K : zK} {r : Int} {F9 : zF} {B9 : zB} (X : zX D ca L aS vS A p s m args meth c prog_1_method_38_code 3 (Option.some Jvm.ClassFile.FieldType.int) "StaveHouse") {s0 : Int} {F : zF} {B : zB} {H : Heap} {locs : List Loc} {ls : Array Slot} (hf : f_S_keyAlteration_25 K s0 F B = some (r, F9, B9)) (hZ : zH D ca ad lnC K.2 L F B A H) (hS : va_S A s.heap H locs) (hl : lv_has ls 3 []) : W p l e ({ frames := 1, cells := 0, slots := 0, locals := 22 } : Room) s m args below meth c H locs 0 0 (MQ below (Q_S_keyAlteration K D ca ad L r F9 B9 A) args s 0 0 A) (F0 m 25 ls [.int (iI s0)]) := by
  obtain ⟨hx, hb, hr, hml, hown, hts, hlk, hK, hA, hL, hX⟩ := id X
  replace hf : (some (s0, F, B)) = some (r, F9, B9) := hf
  cases hf
  exact W.iret hx hb hr (fun t ht hW => ⟨⟨_, (), rfl, rfl, by rw [ht]; exact hZ, va_K.moved hW.alike hK⟩, hS.F ht⟩) hS.2.2 d_1_38_25 hlk

def f_S_keyAlteration (K : zK) (l0 : Int) (l1 : Int) (F : zF) (B : zB) : zO := zbind (f_Math_floorMod K l1 7 F B) (fun r1 F1 B1 => if 0 ≤ r1 ∧ r1 < ztl 7 then if r32 l0 then (if l0 ≤ 0 then if r32 (6 - (ztv 7 r1)) then if r32 (-l0) then (if (-l0) ≤ (6 - (ztv 7 r1)) then f_S_keyAlteration_40 K 0 F1 B1 else f_S_keyAlteration_40 K (-1) F1 B1) else none else none else if r32 (ztv 7 r1) then (if l0 ≤ (ztv 7 r1) then f_S_keyAlteration_25 K 0 F1 B1 else f_S_keyAlteration_25 K 1 F1 B1) else none) else none else none)
set_option maxHeartbeats 4000000 in
set_option maxRecDepth 100000 in
theorem c_S_keyAlteration {l : Launch} {D : va_G} {ca : Nat → ClassId} {ad : Nat → Int → Nat → Nat} {L : List Nat} {aS vS : Nat → Nat} {sz : Nat} {K : zK}  {l0 : Int} {l1 : Int} {F F9 : zF} {B B9 : zB} {r : Int} (hf : f_S_keyAlteration K l0 l1 F B = some (r, F9, B9)) : Met l ({ cls := "StaveHouse", name := "keyAlteration", desc := "(II)I" } : Jvm.MethodName) (Cond.code ({ cls := "StaveHouse", name := "keyAlteration", desc := "(II)I" } : Jvm.MethodName) prog_1_method_38_code 3 (Option.some Jvm.ClassFile.FieldType.int) :: wAll) ({ frames := 1, cells := 0, slots := 0, locals := 22 } : Room) (va_Pc [.int (iI l0), .int (iI l1)] (zPre D ca ad lnC K.2 L aS vS F B sz)) (Q_S_keyAlteration K D ca ad L r F9 B9 (zA L sz)) 0 0 (zA L sz) := by
  refine zMet (Qc := Q_S_keyAlteration K D ca ad L r F9 B9) (lv := [(0, .int (iI l0)), (1, .int (iI l1))]) (by decide) (Nat.le_of_ble_eq_true rfl) rfl (fun A p e s m below meth c ls X hZ hS hl => ?_)
  obtain ⟨hx, hb, hr, hml, hown, hts, hlk, hK, hA, hL, hX⟩ := id X
  replace hf : (zbind (f_Math_floorMod K l1 7 F B) (fun r1 F1 B1 => if 0 ≤ r1 ∧ r1 < ztl 7 then if r32 l0 then (if l0 ≤ 0 then if r32 (6 - (ztv 7 r1)) then if r32 (-l0) then (if (-l0) ≤ (6 - (ztv 7 r1)) then f_S_keyAlteration_40 K 0 F1 B1 else f_S_keyAlteration_40 K (-1) F1 B1) else none else none else if r32 (ztv 7 r1) then (if l0 ≤ (ztv 7 r1) then f_S_keyAlteration_25 K 0 F1 B1 else f_S_keyAlteration_25 K 1 F1 B1) else none) else none else none)) = some (r, F9, B9) := hf
  refine va_gets hx hb (hX.2.2.2.2.2.2 7 _ rfl).1 hS hown (hts _ k_5_119) (fun _ h => h) d_1_38_0 ?_
  refine W.eq (g2 := F0 m 3 ls [.ref (vS (1000 + 7))]) rfl ?_
  refine lv_iload_n hx hb d_1_38_3 rfl (lv_at hl 1 rfl) ?_
  refine lv_bipush (v := iI 7) hx hb d_1_38_4 (by decide) ?_
  obtain ⟨r1, F1, B1, hc1, hf⟩ := gbind hf
  refine va_calli (va_runS (As := [.int (iI l1), .int (iI 7)]) (rest := [.ref (vS (1000 + 7))]) ⟨hx, hb, hml, hown, hts⟩ (c_Math_floorMod (l := l) hc1) (va_cwS 2 hts (gdS k_4_70 k_4_71 k_1_3 k_4_72) rfl rfl rfl (by decide +kernel) ⟨Nat.le_of_ble_eq_true rfl, Nat.le_of_ble_eq_true rfl⟩) (zPS X hZ hS [.int (iI l1), .int (iI 7)]) rfl rfl hl.1 rfl (lv_room (Nat.le_of_ble_eq_true rfl)) d_1_38_6 ⟨Nat.le_of_ble_eq_true rfl, Nat.le_of_ble_eq_true rfl⟩) hS (fun q _ h => zAin X hS q h) (zAin X hS) (fun p1 u1 t1 H1 locs1 ht1 hv1 hw1 hB1 hz1 hk1 hS1 => ?_)
  have hZ1 := zBack X ht1 hB1
  subst hw1
  obtain ⟨g2, hf⟩ := gif hf
  refine va_ti (v := .int (iI (ztv 7 r1))) hx hb (ztI hX (by decide) (by decide)) hS1 (zt_in (by decide) g2) (ztI_v (by decide) g2) d_1_38_9 ?_
  refine lv_istore_n (lv' := [(2, .int (iI (ztv 7 r1))), (0, .int (iI l0)), (1, .int (iI l1))]) hx hb d_1_38_10 rfl hl (by decide) rfl (fun ls hl => ?_)
  refine lv_iload_n hx hb d_1_38_11 rfl (lv_at hl 1 rfl) ?_
  obtain ⟨g3, hf⟩ := gif hf
  refine z0le (tgt := 26) hx hb g3 d_1_38_12 (by decide) (fun h4 => ?_) (fun h4 => ?_)
  · replace hf := gpos hf h4
    refine lv_bipush (v := iI 6) hx hb d_1_38_26 (by decide) ?_
    refine lv_iload_n hx hb d_1_38_28 rfl (lv_at hl 0 rfl) ?_
    refine zsub hx hb d_1_38_29 ?_
    refine lv_iload_n hx hb d_1_38_30 rfl (lv_at hl 1 rfl) ?_
    refine zneg hx hb d_1_38_31 ?_
    obtain ⟨g5, hf⟩ := gif hf
    obtain ⟨g6, hf⟩ := gif hf
    refine zge (tgt := 39) hx hb g5 g6 d_1_38_32 (by decide) (fun h7 => ?_) (fun h7 => ?_)
    · replace hf := gpos hf h7
      refine lv_iconst (v := iI 0) hx hb d_1_38_39 rfl ?_
      exact b_S_keyAlteration_40 X hf hZ1 hS1 (lv_sub hl [] rfl)
    · replace hf := gneg hf h7
      refine lv_iconst (v := iI (-1)) hx hb d_1_38_35 rfl ?_
      refine lv_goto (tgt := 40) hx hb d_1_38_36 (by decide) ?_
      exact b_S_keyAlteration_40 X hf hZ1 hS1 (lv_sub hl [] rfl)
  · replace hf := gneg hf h4
    refine lv_iload_n hx hb d_1_38_15 rfl (lv_at hl 0 rfl) ?_
    refine lv_iload_n hx hb d_1_38_16 rfl (lv_at hl 1 rfl) ?_
    obtain ⟨g8, hf⟩ := gif hf
    refine zge (tgt := 24) hx hb g8 g3 d_1_38_17 (by decide) (fun h9 => ?_) (fun h9 => ?_)
    · replace hf := gpos hf h9
      refine lv_iconst (v := iI 0) hx hb d_1_38_24 rfl ?_
      exact b_S_keyAlteration_25 X hf hZ1 hS1 (lv_sub hl [] rfl)
    · replace hf := gneg hf h9
      refine lv_iconst (v := iI 1) hx hb d_1_38_20 rfl ?_
      refine lv_goto (tgt := 25) hx hb d_1_38_21 (by decide) ?_
      exact b_S_keyAlteration_25 X hf hZ1 hS1 (lv_sub hl [] rfl)

abbrev Q_Part_isTiedFrom (K : zK) (D : va_G) (ca : Nat → ClassId) (ad : Nat → Int → Nat → Nat) (L : List Nat) (r : Int) (F : zF) (B : zB) (A : Nat → Prop) : Array Value → State → Outcome → State → Prop := va_Qi (S := Unit) (fun p _ => p = iI r) (fun _ => zPo D ca ad lnC K.2 L F B A) A
def f_Part_isTiedFrom_57 (K : zK) (s0 : Int) (F : zF) (B : zB) : zO := if (s0 = 0 ∨ s0 = 1) then some (s0, F, B) else none
set_option maxHeartbeats 4000000 in
set_option maxRecDepth 100000 in
theorem b_Part_isTiedFrom_57 {D : va_G} {ca : Nat → ClassId} {ad : Nat → Int → Nat → Nat} {L : List Nat} {aS vS : Nat → Nat} {A : Nat → Prop} {p : Program} {l : Launch} {e : Env} {s : State} {m : MethodId} {args : Array Value} {below : List Frame} {meth : Method} {c : Code} {K : zK} {r : Int} {F9 : zF} {B9 : zB} (X : zX D ca L aS vS A p s m args meth c prog_6_method_8_code 4 (Option.some Jvm.ClassFile.FieldType.boolean) "StaveHouse$Part") {s0 : Int} {F : zF} {B : zB} {H : Heap} {locs : List Loc} {ls : Array Slot} (hf : f_Part_isTiedFrom_57 K s0 F B = some (r, F9, B9)) (hZ : zH D ca ad lnC K.2 L F B A H) (hS : va_S A s.heap H locs) (hl : lv_has ls 4 []) : W p l e ({ frames := 1, cells := 0, slots := 0, locals := 23 } : Room) s m args below meth c H locs 0 0 (MQ below (Q_Part_isTiedFrom K D ca ad L r F9 B9 A) args s 0 0 A) (F0 m 57 ls [.int (iI s0)]) := by
  obtain ⟨hx, hb, hr, hml, hown, hts, hlk, hK, hA, hL, hX⟩ := id X
  replace hf : (if (s0 = 0 ∨ s0 = 1) then some (s0, F, B) else none) = some (r, F9, B9) := hf
  obtain ⟨g16, hf⟩ := gif hf
  cases hf
  exact W.zret hx hb hr (zbool g16) (fun t ht hW => ⟨⟨_, (), rfl, rfl, by rw [ht]; exact hZ, va_K.moved hW.alike hK⟩, hS.F ht⟩) hS.2.2 d_6_8_57 hlk

def f_Part_isTiedFrom_56 (K : zK)  (F : zF) (B : zB) : zO := f_Part_isTiedFrom_57 K 0 F B
set_option maxHeartbeats 4000000 in
set_option maxRecDepth 100000 in
theorem b_Part_isTiedFrom_56 {D : va_G} {ca : Nat → ClassId} {ad : Nat → Int → Nat → Nat} {L : List Nat} {aS vS : Nat → Nat} {A : Nat → Prop} {p : Program} {l : Launch} {e : Env} {s : State} {m : MethodId} {args : Array Value} {below : List Frame} {meth : Method} {c : Code} {K : zK} {r : Int} {F9 : zF} {B9 : zB} (X : zX D ca L aS vS A p s m args meth c prog_6_method_8_code 4 (Option.some Jvm.ClassFile.FieldType.boolean) "StaveHouse$Part")  {F : zF} {B : zB} {H : Heap} {locs : List Loc} {ls : Array Slot} (hf : f_Part_isTiedFrom_56 K  F B = some (r, F9, B9)) (hZ : zH D ca ad lnC K.2 L F B A H) (hS : va_S A s.heap H locs) (hl : lv_has ls 4 []) : W p l e ({ frames := 1, cells := 0, slots := 0, locals := 23 } : Room) s m args below meth c H locs 0 0 (MQ below (Q_Part_isTiedFrom K D ca ad L r F9 B9 A) args s 0 0 A) (F0 m 56 ls []) := by
  obtain ⟨hx, hb, hr, hml, hown, hts, hlk, hK, hA, hL, hX⟩ := id X
  replace hf : (f_Part_isTiedFrom_57 K 0 F B) = some (r, F9, B9) := hf
  refine lv_iconst (v := iI 0) hx hb d_6_8_56 rfl ?_
  exact b_Part_isTiedFrom_57 X hf hZ hS (lv_sub hl [] rfl)

def f_Part_isTiedFrom (K : zK) (l0 : Int) (l1 : Int) (l2 : Int) (F : zF) (B : zB) : zO := if 0 ≤ l0 ∧ l0 < K.2 4 then if 0 ≤ l1 ∧ l1 < 200 then if r32 l1 then (if l1 ≤ 0 then f_Part_isTiedFrom_56 K F B else if 0 ≤ (l1 - 1) ∧ (l1 - 1) < 200 then if 0 ≤ (B 4 l0 5 (l1 - 1)) ∧ (B 4 l0 5 (l1 - 1)) < K.2 1 then zbind (f_Event_has K (B 4 l0 5 (l1 - 1)) 1 F B) (fun r7 F7 B7 => if r32 r7 then (if r7 = 0 then f_Part_isTiedFrom_56 K F7 B7 else if 0 ≤ (B 4 l0 5 l1) ∧ (B 4 l0 5 l1) < K.2 1 then if 0 ≤ l2 ∧ l2 < 6 then if 0 ≤ (B7 4 l0 5 (l1 - 1)) ∧ (B7 4 l0 5 (l1 - 1)) < K.2 1 then zbind (f_Event_hasPitch K (B7 4 l0 5 (l1 - 1)) (B7 1 (B 4 l0 5 l1) 12 l2) (B7 1 (B 4 l0 5 l1) 13 l2) F7 B7) (fun r13 F13 B13 => if r32 r13 then (if r13 = 0 then f_Part_isTiedFrom_56 K F13 B13 else f_Part_isTiedFrom_57 K 1 F13 B13) else none) else none else none else none) else none) else none else none) else none else none else none
set_option maxHeartbeats 4000000 in
set_option maxRecDepth 100000 in
theorem c_Part_isTiedFrom {l : Launch} {D : va_G} {ca : Nat → ClassId} {ad : Nat → Int → Nat → Nat} {L : List Nat} {aS vS : Nat → Nat} {sz : Nat} {K : zK}  {l0 : Int} {l1 : Int} {l2 : Int} {F F9 : zF} {B B9 : zB} {r : Int} (hf : f_Part_isTiedFrom K l0 l1 l2 F B = some (r, F9, B9)) : Met l ({ cls := "StaveHouse$Part", name := "isTiedFrom", desc := "(II)Z" } : Jvm.MethodName) (Cond.code ({ cls := "StaveHouse$Part", name := "isTiedFrom", desc := "(II)Z" } : Jvm.MethodName) prog_6_method_8_code 4 (Option.some Jvm.ClassFile.FieldType.boolean) :: wAll) ({ frames := 1, cells := 0, slots := 0, locals := 23 } : Room) (va_Pc [.ref (ad 4 l0 0), .int (iI l1), .int (iI l2)] (zPre D ca ad lnC K.2 L aS vS F B sz)) (Q_Part_isTiedFrom K D ca ad L r F9 B9 (zA L sz)) 0 0 (zA L sz) := by
  refine zMet (Qc := Q_Part_isTiedFrom K D ca ad L r F9 B9) (lv := [(0, .ref (ad 4 l0 0)), (1, .int (iI l1)), (2, .int (iI l2))]) (by decide) (Nat.le_of_ble_eq_true rfl) rfl (fun A p e s m below meth c ls X hZ hS hl => ?_)
  obtain ⟨hx, hb, hr, hml, hown, hts, hlk, hK, hA, hL, hX⟩ := id X
  replace hf : (if 0 ≤ l0 ∧ l0 < K.2 4 then if 0 ≤ l1 ∧ l1 < 200 then if r32 l1 then (if l1 ≤ 0 then f_Part_isTiedFrom_56 K F B else if 0 ≤ (l1 - 1) ∧ (l1 - 1) < 200 then if 0 ≤ (B 4 l0 5 (l1 - 1)) ∧ (B 4 l0 5 (l1 - 1)) < K.2 1 then zbind (f_Event_has K (B 4 l0 5 (l1 - 1)) 1 F B) (fun r7 F7 B7 => if r32 r7 then (if r7 = 0 then f_Part_isTiedFrom_56 K F7 B7 else if 0 ≤ (B 4 l0 5 l1) ∧ (B 4 l0 5 l1) < K.2 1 then if 0 ≤ l2 ∧ l2 < 6 then if 0 ≤ (B7 4 l0 5 (l1 - 1)) ∧ (B7 4 l0 5 (l1 - 1)) < K.2 1 then zbind (f_Event_hasPitch K (B7 4 l0 5 (l1 - 1)) (B7 1 (B 4 l0 5 l1) 12 l2) (B7 1 (B 4 l0 5 l1) 13 l2) F7 B7) (fun r13 F13 B13 => if r32 r13 then (if r13 = 0 then f_Part_isTiedFrom_56 K F13 B13 else f_Part_isTiedFrom_57 K 1 F13 B13) else none) else none else none else none) else none) else none else none) else none else none else none) = some (r, F9, B9) := hf
  refine lv_aload_n hx hb d_6_8_0 rfl (lv_at hl 0 rfl) ?_
  obtain ⟨g1, hf⟩ := gif hf
  refine zget (ci := 4) (C := RX4) (T := TX4) (v := .ref (ad 4 l0 (5 + 1))) (k := 5) hx hb hts inW_4 hown hK hZ g1.1 g1.2 rfl (by decide) k_4_130 rfl d_6_8_1 ?_
  refine lv_iload_n hx hb d_6_8_4 rfl (lv_at hl 1 rfl) ?_
  obtain ⟨g2, hf⟩ := gif hf
  refine zaldR (t := 1) (x := 7) (ci := 4) (k := 5) hx hb hK rfl rfl hZ g1.1 g1.2 rfl (Nat.le_of_ble_eq_true rfl) g2.1 g2.2 d_6_8_5 ?_
  refine zastore_n (lv' := [(0, .ref (ad 4 l0 0)), (1, .int (iI l1)), (2, .int (iI l2))]) hx hb d_6_8_6 rfl hl (by decide) (fun _ _ => rfl) (fun ls hl => ?_)
  refine lv_iload_n hx hb d_6_8_7 rfl (lv_at hl 2 rfl) ?_
  obtain ⟨g3, hf⟩ := gif hf
  refine z0le (tgt := 56) hx hb g3 d_6_8_8 (by decide) (fun h4 => ?_) (fun h4 => ?_)
  · replace hf := gpos hf h4
    exact b_Part_isTiedFrom_56 X hf hZ hS (lv_sub hl [] rfl)
  · replace hf := gneg hf h4
    refine lv_aload_n hx hb d_6_8_11 rfl (lv_at hl 1 rfl) ?_
    refine zget (ci := 4) (C := RX4) (T := TX4) (v := .ref (ad 4 l0 (5 + 1))) (k := 5) hx hb hts inW_4 hown hK hZ g1.1 g1.2 rfl (by decide) k_4_130 rfl d_6_8_12 ?_
    refine lv_iload_n hx hb d_6_8_15 rfl (lv_at hl 2 rfl) ?_
    refine lv_iconst (v := iI 1) hx hb d_6_8_16 rfl ?_
    refine zsub hx hb d_6_8_17 ?_
    obtain ⟨g5, hf⟩ := gif hf
    refine zaldR (t := 1) (x := 7) (ci := 4) (k := 5) hx hb hK rfl rfl hZ g1.1 g1.2 rfl (Nat.le_of_ble_eq_true rfl) g5.1 g5.2 d_6_8_18 ?_
    refine lv_iconst (v := iI 1) hx hb d_6_8_19 rfl ?_
    obtain ⟨g6, hf⟩ := gif hf
    refine W.eq (g2 := F0 m 20 ls [.int (iI 1), .ref (ad 1 (B 4 l0 5 (l1 - 1)) 0)]) (by rw [zrf_pos (ad := ad) (t := 1) g6.1]; try rfl) ?_
    obtain ⟨r7, F7, B7, hc7, hf⟩ := gbind hf
    refine va_calli (va_runV (As := [.int (iI 1)]) (rest := []) ⟨hx, hb, hml, hown, hts⟩ (c_Event_has (l := l) hc7) (cwV 1 hts (gdV k_5_15 k_5_16 k_5_17 k_1_8 k_5_18) rfl rfl rfl (by decide +kernel) ⟨Nat.le_of_ble_eq_true rfl, Nat.le_of_ble_eq_true rfl⟩) (zPV X hZ hS (ci := 1) g6.1 g6.2 (r := (RX1, TX1, 14)) rfl [.int (iI 1)]) rfl rfl hl.1 rfl (lv_room (Nat.le_of_ble_eq_true rfl)) d_6_8_20 ⟨Nat.le_of_ble_eq_true rfl, Nat.le_of_ble_eq_true rfl⟩) hS (fun q _ h => zAin X hS q h) (zAin X hS) (fun p7 u7 t7 H7 locs7 ht7 hv7 hw7 hB7 hz7 hk7 hS7 => ?_)
    have hZ7 := zBack X ht7 hB7
    subst hw7
    obtain ⟨g8, hf⟩ := gif hf
    refine z0eq (tgt := 56) hx hb g8 d_6_8_23 (by decide) (fun h9 => ?_) (fun h9 => ?_)
    · replace hf := gpos hf h9
      exact b_Part_isTiedFrom_56 X hf hZ7 hS7 (lv_sub hl [] rfl)
    · replace hf := gneg hf h9
      refine lv_aload_n hx hb d_6_8_26 rfl (lv_at hl 1 rfl) ?_
      refine zget (ci := 4) (C := RX4) (T := TX4) (v := .ref (ad 4 l0 (5 + 1))) (k := 5) hx hb hts inW_4 hown hK hZ7 g1.1 g1.2 rfl (by decide) k_4_130 rfl d_6_8_27 ?_
      refine lv_iload_n hx hb d_6_8_30 rfl (lv_at hl 2 rfl) ?_
      refine lv_iconst (v := iI 1) hx hb d_6_8_31 rfl ?_
      refine zsub hx hb d_6_8_32 ?_
      refine zaldR (t := 1) (x := 7) (ci := 4) (k := 5) hx hb hK rfl rfl hZ7 g1.1 g1.2 rfl (Nat.le_of_ble_eq_true rfl) g5.1 g5.2 d_6_8_33 ?_
      refine zaload_n hx hb d_6_8_34 rfl (lv_at hl 0 rfl) ?_
      obtain ⟨g10, hf⟩ := gif hf
      refine zunrf g10.1 ?_
      refine zget (ci := 1) (C := RX1) (T := TX1) (v := .ref (ad 1 (B 4 l0 5 l1) (12 + 1))) (k := 12) hx hb hts inW_1 hown hK hZ7 g10.1 g10.2 rfl (by decide) k_2_60 rfl d_6_8_35 ?_
      refine lv_iload_n hx hb d_6_8_38 rfl (lv_at hl 3 rfl) ?_
      obtain ⟨g11, hf⟩ := gif hf
      refine zald (ci := 1) (k := 12) hx hb hK rfl hZ7 g10.1 g10.2 rfl (Nat.le_of_ble_eq_true rfl) g11.1 g11.2 d_6_8_39 ?_
      refine zaload_n hx hb d_6_8_40 rfl (lv_at hl 0 rfl) ?_
      refine zunrf g10.1 ?_
      refine zget (ci := 1) (C := RX1) (T := TX1) (v := .ref (ad 1 (B 4 l0 5 l1) (13 + 1))) (k := 13) hx hb hts inW_1 hown hK hZ7 g10.1 g10.2 rfl (by decide) k_2_65 rfl d_6_8_41 ?_
      refine lv_iload_n hx hb d_6_8_44 rfl (lv_at hl 3 rfl) ?_
      refine zald (ci := 1) (k := 13) hx hb hK rfl hZ7 g10.1 g10.2 rfl (Nat.le_of_ble_eq_true rfl) g11.1 g11.2 d_6_8_45 ?_
      obtain ⟨g12, hf⟩ := gif hf
      refine W.eq (g2 := F0 m 46 ls [.int (iI (B7 1 (B 4 l0 5 l1) 13 l2)), .int (iI (B7 1 (B 4 l0 5 l1) 12 l2)), .ref (ad 1 (B7 4 l0 5 (l1 - 1)) 0)]) (by rw [zrf_pos (ad := ad) (t := 1) g12.1]; try rfl) ?_
      obtain ⟨r13, F13, B13, hc13, hf⟩ := gbind hf
      refine va_calli (va_runV (As := [.int (iI (B7 1 (B 4 l0 5 l1) 12 l2)), .int (iI (B7 1 (B 4 l0 5 l1) 13 l2))]) (rest := []) ⟨hx, hb, hml, hown, hts⟩ (c_Event_hasPitch (l := l) hc13) (cwV 2 hts (gdV k_5_129 k_5_46 k_5_47 k_1_8 k_5_48) rfl rfl rfl (by decide +kernel) ⟨Nat.le_of_ble_eq_true rfl, Nat.le_of_ble_eq_true rfl⟩) (zPV X hZ7 hS7 (ci := 1) g12.1 g12.2 (r := (RX1, TX1, 14)) rfl [.int (iI (B7 1 (B 4 l0 5 l1) 12 l2)), .int (iI (B7 1 (B 4 l0 5 l1) 13 l2))]) rfl rfl hl.1 rfl (lv_room (Nat.le_of_ble_eq_true rfl)) d_6_8_46 ⟨Nat.le_of_ble_eq_true rfl, Nat.le_of_ble_eq_true rfl⟩) hS7 (fun q _ h => zAin X hS7 q h) (zAin X hS7) (fun p13 u13 t13 H13 locs13 ht13 hv13 hw13 hB13 hz13 hk13 hS13 => ?_)
      have hZ13 := zBack X ht13 hB13
      subst hw13
      obtain ⟨g14, hf⟩ := gif hf
      refine z0eq (tgt := 56) hx hb g14 d_6_8_49 (by decide) (fun h15 => ?_) (fun h15 => ?_)
      · replace hf := gpos hf h15
        exact b_Part_isTiedFrom_56 X hf hZ13 hS13 (lv_sub hl [] rfl)
      · replace hf := gneg hf h15
        refine lv_iconst (v := iI 1) hx hb d_6_8_52 rfl ?_
        refine lv_goto (tgt := 57) hx hb d_6_8_53 (by decide) ?_
        exact b_Part_isTiedFrom_57 X hf hZ13 hS13 (lv_sub hl [] rfl)

abbrev Q_Part_greatestHeight (K : zK) (D : va_G) (ca : Nat → ClassId) (ad : Nat → Int → Nat → Nat) (L : List Nat) (r : Int) (F : zF) (B : zB) (A : Nat → Prop) : Array Value → State → Outcome → State → Prop := va_Qi (S := Unit) (fun p _ => p = iI r) (fun _ => zPo D ca ad lnC K.2 L F B A) A
def f_Part_greatestHeight (K : zK) (l0 : Int) (l1 : Int) (F : zF) (B : zB) : zO := if 0 ≤ l0 ∧ l0 < K.2 4 then if 0 ≤ l1 ∧ l1 < 800 then if 0 ≤ (B 4 l0 360 l1) ∧ (B 4 l0 360 l1) < 200 then if 0 ≤ (B 4 l0 5 (B 4 l0 360 l1)) ∧ (B 4 l0 5 (B 4 l0 360 l1)) < K.2 1 then if r32 ((F 1 (B 4 l0 5 (B 4 l0 360 l1)) 10) - 1) then if 0 ≤ (zmax ((F 1 (B 4 l0 5 (B 4 l0 360 l1)) 10) - 1) 0) ∧ (zmax ((F 1 (B 4 l0 5 (B 4 l0 360 l1)) 10) - 1) 0) < 6 then if 0 ≤ (F 4 l0 1) ∧ (F 4 l0 1) < ztl 8 then some ((B 1 (B 4 l0 5 (B 4 l0 360 l1)) 12 (zmax ((F 1 (B 4 l0 5 (B 4 l0 360 l1)) 10) - 1) 0)) - (ztv 8 (F 4 l0 1)), F, B) else none else none else none else none else none else none else none
set_option maxHeartbeats 4000000 in
set_option maxRecDepth 100000 in
theorem c_Part_greatestHeight {l : Launch} {D : va_G} {ca : Nat → ClassId} {ad : Nat → Int → Nat → Nat} {L : List Nat} {aS vS : Nat → Nat} {sz : Nat} {K : zK}  {l0 : Int} {l1 : Int} {F F9 : zF} {B B9 : zB} {r : Int} (hf : f_Part_greatestHeight K l0 l1 F B = some (r, F9, B9)) : Met l ({ cls := "StaveHouse$Part", name := "greatestHeight", desc := "(I)I" } : Jvm.MethodName) (Cond.code ({ cls := "StaveHouse$Part", name := "greatestHeight", desc := "(I)I" } : Jvm.MethodName) prog_6_method_20_code 3 (Option.some Jvm.ClassFile.FieldType.int) :: wAll) ({ frames := 1, cells := 0, slots := 0, locals := 14 } : Room) (va_Pc [.ref (ad 4 l0 0), .int (iI l1)] (zPre D ca ad lnC K.2 L aS vS F B sz)) (Q_Part_greatestHeight K D ca ad L r F9 B9 (zA L sz)) 0 0 (zA L sz) := by
  refine zMet (Qc := Q_Part_greatestHeight K D ca ad L r F9 B9) (lv := [(0, .ref (ad 4 l0 0)), (1, .int (iI l1))]) (by decide) (Nat.le_of_ble_eq_true rfl) rfl (fun A p e s m below meth c ls X hZ hS hl => ?_)
  obtain ⟨hx, hb, hr, hml, hown, hts, hlk, hK, hA, hL, hX⟩ := id X
  replace hf : (if 0 ≤ l0 ∧ l0 < K.2 4 then if 0 ≤ l1 ∧ l1 < 800 then if 0 ≤ (B 4 l0 360 l1) ∧ (B 4 l0 360 l1) < 200 then if 0 ≤ (B 4 l0 5 (B 4 l0 360 l1)) ∧ (B 4 l0 5 (B 4 l0 360 l1)) < K.2 1 then if r32 ((F 1 (B 4 l0 5 (B 4 l0 360 l1)) 10) - 1) then if 0 ≤ (zmax ((F 1 (B 4 l0 5 (B 4 l0 360 l1)) 10) - 1) 0) ∧ (zmax ((F 1 (B 4 l0 5 (B 4 l0 360 l1)) 10) - 1) 0) < 6 then if 0 ≤ (F 4 l0 1) ∧ (F 4 l0 1) < ztl 8 then some ((B 1 (B 4 l0 5 (B 4 l0 360 l1)) 12 (zmax ((F 1 (B 4 l0 5 (B 4 l0 360 l1)) 10) - 1) 0)) - (ztv 8 (F 4 l0 1)), F, B) else none else none else none else none else none else none else none) = some (r, F9, B9) := hf
  refine lv_aload_n hx hb d_6_20_0 rfl (lv_at hl 0 rfl) ?_
  obtain ⟨g1, hf⟩ := gif hf
  refine zget (ci := 4) (C := RX4) (T := TX4) (v := .ref (ad 4 l0 (5 + 1))) (k := 5) hx hb hts inW_4 hown hK hZ g1.1 g1.2 rfl (by decide) k_4_130 rfl d_6_20_1 ?_
  refine lv_aload_n hx hb d_6_20_4 rfl (lv_at hl 0 rfl) ?_
  refine zget (ci := 4) (C := RX4) (T := TX4) (v := .ref (ad 4 l0 (8 + 1))) (k := 8) hx hb hts inW_4 hown hK hZ g1.1 g1.2 rfl (by decide) k_4_142 rfl d_6_20_5 ?_
  refine lv_iconst (v := iI 0) hx hb d_6_20_8 rfl ?_
  refine zaldQ (t := 0) (ci := 4) (k := 8) hx hb hK rfl hZ g1.1 g1.2 rfl (Nat.le_of_ble_eq_true rfl) (by decide) (by decide) d_6_20_9 ?_
  refine W.eq (g2 := F0 m 10 ls [.ref (ad 4 l0 (360 + 1)), .ref (ad 4 l0 (5 + 1))]) rfl ?_
  refine lv_iload_n hx hb d_6_20_10 rfl (lv_at hl 1 rfl) ?_
  obtain ⟨g2, hf⟩ := gif hf
  refine zald (ci := 4) (k := 360) hx hb hK rfl hZ g1.1 g1.2 rfl (Nat.le_of_ble_eq_true rfl) g2.1 g2.2 d_6_20_11 ?_
  obtain ⟨g3, hf⟩ := gif hf
  refine zaldR (t := 1) (x := 7) (ci := 4) (k := 5) hx hb hK rfl rfl hZ g1.1 g1.2 rfl (Nat.le_of_ble_eq_true rfl) g3.1 g3.2 d_6_20_12 ?_
  refine zastore_n (lv' := [(0, .ref (ad 4 l0 0)), (1, .int (iI l1))]) hx hb d_6_20_13 rfl hl (by decide) (fun _ _ => rfl) (fun ls hl => ?_)
  refine zaload_n hx hb d_6_20_14 rfl (lv_at hl 0 rfl) ?_
  obtain ⟨g4, hf⟩ := gif hf
  refine zunrf g4.1 ?_
  refine zget (ci := 1) (C := RX1) (T := TX1) (v := .ref (ad 1 (B 4 l0 5 (B 4 l0 360 l1)) (12 + 1))) (k := 12) hx hb hts inW_1 hown hK hZ g4.1 g4.2 rfl (by decide) k_2_60 rfl d_6_20_15 ?_
  refine zaload_n hx hb d_6_20_18 rfl (lv_at hl 0 rfl) ?_
  refine zunrf g4.1 ?_
  refine zget (ci := 1) (C := RX1) (T := TX1) (v := .int (iI (F 1 (B 4 l0 5 (B 4 l0 360 l1)) 10))) (k := 10) hx hb hts inW_1 hown hK hZ g4.1 g4.2 rfl (by decide) k_2_54 rfl d_6_20_19 ?_
  refine lv_iconst (v := iI 1) hx hb d_6_20_22 rfl ?_
  refine zsub hx hb d_6_20_23 ?_
  refine lv_iconst (v := iI 0) hx hb d_6_20_24 rfl ?_
  obtain ⟨g5, hf⟩ := gif hf
  refine va_mmax hx hb (by rw [hml]; exact hl.1.symm) hown (hts _ k_5_77) (hts _ k_1_39) (hts _ k_1_3) (hts _ k_1_40) (Nat.le_of_ble_eq_true rfl) (Nat.le_of_ble_eq_true rfl) (Nat.le_of_ble_eq_true rfl) (Nat.le_of_ble_eq_true rfl) d_6_20_25 ?_
  rw [zmax_e g5 (by decide)]
  obtain ⟨g6, hf⟩ := gif hf
  refine zald (ci := 1) (k := 12) hx hb hK rfl hZ g4.1 g4.2 rfl (Nat.le_of_ble_eq_true rfl) g6.1 g6.2 d_6_20_28 ?_
  refine va_gets hx hb (hX.2.2.2.2.2.2 8 _ rfl).1 hS hown (hts _ k_5_138) (fun _ h => h) d_6_20_29 ?_
  refine W.eq (g2 := F0 m 32 ls [.ref (vS (1000 + 8)), .int (iI (B 1 (B 4 l0 5 (B 4 l0 360 l1)) 12 (zmax ((F 1 (B 4 l0 5 (B 4 l0 360 l1)) 10) - 1) 0)))]) rfl ?_
  refine lv_aload_n hx hb d_6_20_32 rfl (lv_at hl 1 rfl) ?_
  refine zget (ci := 4) (C := RX4) (T := TX4) (v := .int (iI (F 4 l0 1))) (k := 1) hx hb hts inW_4 hown hK hZ g1.1 g1.2 rfl (by decide) k_4_121 rfl d_6_20_33 ?_
  obtain ⟨g7, hf⟩ := gif hf
  refine va_ti (v := .int (iI (ztv 8 (F 4 l0 1)))) hx hb (ztI hX (by decide) (by decide)) hS (zt_in (by decide) g7) (ztI_v (by decide) g7) d_6_20_36 ?_
  refine zsub hx hb d_6_20_37 ?_
  cases hf
  exact W.iret hx hb hr (fun t ht hW => ⟨⟨_, (), rfl, rfl, by rw [ht]; exact hZ, va_K.moved hW.alike hK⟩, hS.F ht⟩) hS.2.2 d_6_20_38 hlk

abbrev Q_Part_leastHeight (K : zK) (D : va_G) (ca : Nat → ClassId) (ad : Nat → Int → Nat → Nat) (L : List Nat) (r : Int) (F : zF) (B : zB) (A : Nat → Prop) : Array Value → State → Outcome → State → Prop := va_Qi (S := Unit) (fun p _ => p = iI r) (fun _ => zPo D ca ad lnC K.2 L F B A) A
def f_Part_leastHeight (K : zK) (l0 : Int) (l1 : Int) (F : zF) (B : zB) : zO := if 0 ≤ l0 ∧ l0 < K.2 4 then if 0 ≤ l1 ∧ l1 < 800 then if 0 ≤ (B 4 l0 360 l1) ∧ (B 4 l0 360 l1) < 200 then if 0 ≤ (B 4 l0 5 (B 4 l0 360 l1)) ∧ (B 4 l0 5 (B 4 l0 360 l1)) < K.2 1 then if 0 ≤ (F 4 l0 1) ∧ (F 4 l0 1) < ztl 8 then some ((B 1 (B 4 l0 5 (B 4 l0 360 l1)) 12 0) - (ztv 8 (F 4 l0 1)), F, B) else none else none else none else none else none
set_option maxHeartbeats 4000000 in
set_option maxRecDepth 100000 in
theorem c_Part_leastHeight {l : Launch} {D : va_G} {ca : Nat → ClassId} {ad : Nat → Int → Nat → Nat} {L : List Nat} {aS vS : Nat → Nat} {sz : Nat} {K : zK}  {l0 : Int} {l1 : Int} {F F9 : zF} {B B9 : zB} {r : Int} (hf : f_Part_leastHeight K l0 l1 F B = some (r, F9, B9)) : Met l ({ cls := "StaveHouse$Part", name := "leastHeight", desc := "(I)I" } : Jvm.MethodName) (Cond.code ({ cls := "StaveHouse$Part", name := "leastHeight", desc := "(I)I" } : Jvm.MethodName) prog_6_method_19_code 2 (Option.some Jvm.ClassFile.FieldType.int) :: wAll) ({ frames := 0, cells := 0, slots := 0, locals := 0 } : Room) (va_Pc [.ref (ad 4 l0 0), .int (iI l1)] (zPre D ca ad lnC K.2 L aS vS F B sz)) (Q_Part_leastHeight K D ca ad L r F9 B9 (zA L sz)) 0 0 (zA L sz) := by
  refine zMet (Qc := Q_Part_leastHeight K D ca ad L r F9 B9) (lv := [(0, .ref (ad 4 l0 0)), (1, .int (iI l1))]) (by decide) (Nat.le_of_ble_eq_true rfl) rfl (fun A p e s m below meth c ls X hZ hS hl => ?_)
  obtain ⟨hx, hb, hr, hml, hown, hts, hlk, hK, hA, hL, hX⟩ := id X
  replace hf : (if 0 ≤ l0 ∧ l0 < K.2 4 then if 0 ≤ l1 ∧ l1 < 800 then if 0 ≤ (B 4 l0 360 l1) ∧ (B 4 l0 360 l1) < 200 then if 0 ≤ (B 4 l0 5 (B 4 l0 360 l1)) ∧ (B 4 l0 5 (B 4 l0 360 l1)) < K.2 1 then if 0 ≤ (F 4 l0 1) ∧ (F 4 l0 1) < ztl 8 then some ((B 1 (B 4 l0 5 (B 4 l0 360 l1)) 12 0) - (ztv 8 (F 4 l0 1)), F, B) else none else none else none else none else none) = some (r, F9, B9) := hf
  refine lv_aload_n hx hb d_6_19_0 rfl (lv_at hl 0 rfl) ?_
  obtain ⟨g1, hf⟩ := gif hf
  refine zget (ci := 4) (C := RX4) (T := TX4) (v := .ref (ad 4 l0 (5 + 1))) (k := 5) hx hb hts inW_4 hown hK hZ g1.1 g1.2 rfl (by decide) k_4_130 rfl d_6_19_1 ?_
  refine lv_aload_n hx hb d_6_19_4 rfl (lv_at hl 0 rfl) ?_
  refine zget (ci := 4) (C := RX4) (T := TX4) (v := .ref (ad 4 l0 (8 + 1))) (k := 8) hx hb hts inW_4 hown hK hZ g1.1 g1.2 rfl (by decide) k_4_142 rfl d_6_19_5 ?_
  refine lv_iconst (v := iI 0) hx hb d_6_19_8 rfl ?_
  refine zaldQ (t := 0) (ci := 4) (k := 8) hx hb hK rfl hZ g1.1 g1.2 rfl (Nat.le_of_ble_eq_true rfl) (by decide) (by decide) d_6_19_9 ?_
  refine W.eq (g2 := F0 m 10 ls [.ref (ad 4 l0 (360 + 1)), .ref (ad 4 l0 (5 + 1))]) rfl ?_
  refine lv_iload_n hx hb d_6_19_10 rfl (lv_at hl 1 rfl) ?_
  obtain ⟨g2, hf⟩ := gif hf
  refine zald (ci := 4) (k := 360) hx hb hK rfl hZ g1.1 g1.2 rfl (Nat.le_of_ble_eq_true rfl) g2.1 g2.2 d_6_19_11 ?_
  obtain ⟨g3, hf⟩ := gif hf
  refine zaldR (t := 1) (x := 7) (ci := 4) (k := 5) hx hb hK rfl rfl hZ g1.1 g1.2 rfl (Nat.le_of_ble_eq_true rfl) g3.1 g3.2 d_6_19_12 ?_
  obtain ⟨g4, hf⟩ := gif hf
  refine zunrf g4.1 ?_
  refine zget (ci := 1) (C := RX1) (T := TX1) (v := .ref (ad 1 (B 4 l0 5 (B 4 l0 360 l1)) (12 + 1))) (k := 12) hx hb hts inW_1 hown hK hZ g4.1 g4.2 rfl (by decide) k_2_60 rfl d_6_19_13 ?_
  refine lv_iconst (v := iI 0) hx hb d_6_19_16 rfl ?_
  refine zald (ci := 1) (k := 12) hx hb hK rfl hZ g4.1 g4.2 rfl (Nat.le_of_ble_eq_true rfl) (by decide) (show (0 : Int) < 6 by decide) d_6_19_17 ?_
  refine va_gets hx hb (hX.2.2.2.2.2.2 8 _ rfl).1 hS hown (hts _ k_5_138) (fun _ h => h) d_6_19_18 ?_
  refine W.eq (g2 := F0 m 21 ls [.ref (vS (1000 + 8)), .int (iI (B 1 (B 4 l0 5 (B 4 l0 360 l1)) 12 0))]) rfl ?_
  refine lv_aload_n hx hb d_6_19_21 rfl (lv_at hl 0 rfl) ?_
  refine zget (ci := 4) (C := RX4) (T := TX4) (v := .int (iI (F 4 l0 1))) (k := 1) hx hb hts inW_4 hown hK hZ g1.1 g1.2 rfl (by decide) k_4_121 rfl d_6_19_22 ?_
  obtain ⟨g5, hf⟩ := gif hf
  refine va_ti (v := .int (iI (ztv 8 (F 4 l0 1)))) hx hb (ztI hX (by decide) (by decide)) hS (zt_in (by decide) g5) (ztI_v (by decide) g5) d_6_19_25 ?_
  refine zsub hx hb d_6_19_26 ?_
  cases hf
  exact W.iret hx hb hr (fun t ht hW => ⟨⟨_, (), rfl, rfl, by rw [ht]; exact hZ, va_K.moved hW.alike hK⟩, hS.F ht⟩) hS.2.2 d_6_19_27 hlk

abbrev Q_Piece_beatLength (K : zK) (D : va_G) (ca : Nat → ClassId) (ad : Nat → Int → Nat → Nat) (L : List Nat) (r : Int) (F : zF) (B : zB) (A : Nat → Prop) : Array Value → State → Outcome → State → Prop := va_Ql (S := Unit) (fun p _ => p = lI r) (fun _ => zPo D ca ad lnC K.2 L F B A) A
def f_Piece_beatLength (K : zK) (l0 : Int) (F : zF) (B : zB) : zO := if 0 ≤ l0 ∧ l0 < K.2 6 then if r32 (F 6 l0 5) then if r32 (zmax (F 6 l0 5) 1) then if ¬ lI (zmax (F 6 l0 5) 1) = 0 then zbind (f_S_beatCount K (F 6 l0 4) (F 6 l0 5) F B) (fun r5 F5 B5 => if r32 r5 then some ((zldv 812851200 (zmax (F 6 l0 5) 1)) * r5, F5, B5) else none) else none else none else none else none
set_option maxHeartbeats 4000000 in
set_option maxRecDepth 100000 in
theorem c_Piece_beatLength {l : Launch} {D : va_G} {ca : Nat → ClassId} {ad : Nat → Int → Nat → Nat} {L : List Nat} {aS vS : Nat → Nat} {sz : Nat} {K : zK}  {l0 : Int} {F F9 : zF} {B B9 : zB} {r : Int} (hf : f_Piece_beatLength K l0 F B = some (r, F9, B9)) : Met l ({ cls := "StaveHouse$Piece", name := "beatLength", desc := "()J" } : Jvm.MethodName) (Cond.code ({ cls := "StaveHouse$Piece", name := "beatLength", desc := "()J" } : Jvm.MethodName) prog_8_method_6_code 1 (Option.some Jvm.ClassFile.FieldType.long) :: wAll) ({ frames := 1, cells := 0, slots := 0, locals := 21 } : Room) (va_Pc [.ref (ad 6 l0 0)] (zPre D ca ad lnC K.2 L aS vS F B sz)) (Q_Piece_beatLength K D ca ad L r F9 B9 (zA L sz)) 0 0 (zA L sz) := by
  refine zMet (Qc := Q_Piece_beatLength K D ca ad L r F9 B9) (lv := [(0, .ref (ad 6 l0 0))]) (by decide) (Nat.le_of_ble_eq_true rfl) rfl (fun A p e s m below meth c ls X hZ hS hl => ?_)
  obtain ⟨hx, hb, hr, hml, hown, hts, hlk, hK, hA, hL, hX⟩ := id X
  replace hf : (if 0 ≤ l0 ∧ l0 < K.2 6 then if r32 (F 6 l0 5) then if r32 (zmax (F 6 l0 5) 1) then if ¬ lI (zmax (F 6 l0 5) 1) = 0 then zbind (f_S_beatCount K (F 6 l0 4) (F 6 l0 5) F B) (fun r5 F5 B5 => if r32 r5 then some ((zldv 812851200 (zmax (F 6 l0 5) 1)) * r5, F5, B5) else none) else none else none else none else none) = some (r, F9, B9) := hf
  refine lv_ldc2 hx hb hown (hts _ k_4_193) d_8_6_0 ?_
  refine W.eq (g2 := F0 m 3 ls [.long (lI 812851200)]) rfl ?_
  refine lv_aload_n hx hb d_8_6_3 rfl (lv_at hl 0 rfl) ?_
  obtain ⟨g1, hf⟩ := gif hf
  refine zget (ci := 6) (C := RX6) (T := TX6) (v := .int (iI (F 6 l0 5))) (k := 5) hx hb hts inW_6 hown hK hZ g1.1 g1.2 rfl (by decide) k_2_212 rfl d_8_6_4 ?_
  refine lv_iconst (v := iI 1) hx hb d_8_6_7 rfl ?_
  obtain ⟨g2, hf⟩ := gif hf
  refine va_mmax hx hb (by rw [hml]; exact hl.1.symm) hown (hts _ k_4_194) (hts _ k_1_39) (hts _ k_1_3) (hts _ k_1_40) (Nat.le_of_ble_eq_true rfl) (Nat.le_of_ble_eq_true rfl) (Nat.le_of_ble_eq_true rfl) (Nat.le_of_ble_eq_true rfl) d_8_6_8 ?_
  rw [zmax_e g2 (by decide)]
  obtain ⟨g3, hf⟩ := gif hf
  refine zi2l hx hb g3 d_8_6_11 ?_
  obtain ⟨g4, hf⟩ := gif hf
  refine zldv_r hx hb g4 d_8_6_12 ?_
  refine lv_aload_n hx hb d_8_6_13 rfl (lv_at hl 0 rfl) ?_
  refine zget (ci := 6) (C := RX6) (T := TX6) (v := .int (iI (F 6 l0 4))) (k := 4) hx hb hts inW_6 hown hK hZ g1.1 g1.2 rfl (by decide) k_2_207 rfl d_8_6_14 ?_
  refine lv_aload_n hx hb d_8_6_17 rfl (lv_at hl 0 rfl) ?_
  refine zget (ci := 6) (C := RX6) (T := TX6) (v := .int (iI (F 6 l0 5))) (k := 5) hx hb hts inW_6 hown hK hZ g1.1 g1.2 rfl (by decide) k_2_212 rfl d_8_6_18 ?_
  obtain ⟨r5, F5, B5, hc5, hf⟩ := gbind hf
  refine va_calli (va_runSN (As := [.int (iI (F 6 l0 4)), .int (iI (F 6 l0 5))]) (rest := [.long (lI (zldv 812851200 (zmax (F 6 l0 5) 1)))]) ⟨hx, hb, hml, hown, hts⟩ (c_S_beatCount (l := l) hc5) ⟨va_cnB 2 hts (gdC k_5_92) rfl rfl rfl (hX.1 _ (List.mem_of_getElem? (i := 18) rfl)) (hts _ k_1_1) (by decide +kernel) ⟨Nat.le_of_ble_eq_true rfl, Nat.le_of_ble_eq_true rfl⟩, hts _ k_5_91, trivial⟩ (zPS X hZ hS [.int (iI (F 6 l0 4)), .int (iI (F 6 l0 5))]) rfl rfl hl.1 rfl (lv_room (Nat.le_of_ble_eq_true rfl)) d_8_6_21 ⟨Nat.le_of_ble_eq_true rfl, Nat.le_of_ble_eq_true rfl⟩) hS (fun q _ h => zAin X hS q h) (zAin X hS) (fun p5 u5 t5 H5 locs5 ht5 hv5 hw5 hB5 hz5 hk5 hS5 => ?_)
  have hZ5 := zBack X ht5 hB5
  subst hw5
  obtain ⟨g6, hf⟩ := gif hf
  refine zi2l hx hb g6 d_8_6_24 ?_
  refine zlmul hx hb d_8_6_25 ?_
  cases hf
  exact W.lret hx hb hr (fun t ht hW => ⟨⟨_, (), rfl, rfl, by rw [ht]; exact hZ5, va_K.moved hW.alike hK⟩, hS5.F ht⟩) hS5.2.2 d_8_6_26 hlk

abbrev Q_Part_isBeamed (K : zK) (D : va_G) (ca : Nat → ClassId) (ad : Nat → Int → Nat → Nat) (L : List Nat) (r : Int) (F : zF) (B : zB) (A : Nat → Prop) : Array Value → State → Outcome → State → Prop := va_Qi (S := Unit) (fun p _ => p = iI r) (fun _ => zPo D ca ad lnC K.2 L F B A) A
def f_Part_isBeamed_25 (K : zK) (s0 : Int) (F : zF) (B : zB) : zO := if (s0 = 0 ∨ s0 = 1) then some (s0, F, B) else none
set_option maxHeartbeats 4000000 in
set_option maxRecDepth 100000 in
theorem b_Part_isBeamed_25 {D : va_G} {ca : Nat → ClassId} {ad : Nat → Int → Nat → Nat} {L : List Nat} {aS vS : Nat → Nat} {A : Nat → Prop} {p : Program} {l : Launch} {e : Env} {s : State} {m : MethodId} {args : Array Value} {below : List Frame} {meth : Method} {c : Code} {K : zK} {r : Int} {F9 : zF} {B9 : zB} (X : zX D ca L aS vS A p s m args meth c prog_6_method_22_code 2 (Option.some Jvm.ClassFile.FieldType.boolean) "StaveHouse$Part") {s0 : Int} {F : zF} {B : zB} {H : Heap} {locs : List Loc} {ls : Array Slot} (hf : f_Part_isBeamed_25 K s0 F B = some (r, F9, B9)) (hZ : zH D ca ad lnC K.2 L F B A H) (hS : va_S A s.heap H locs) (hl : lv_has ls 2 []) : W p l e ({ frames := 1, cells := 0, slots := 0, locals := 22 } : Room) s m args below meth c H locs 0 0 (MQ below (Q_Part_isBeamed K D ca ad L r F9 B9 A) args s 0 0 A) (F0 m 25 ls [.int (iI s0)]) := by
  obtain ⟨hx, hb, hr, hml, hown, hts, hlk, hK, hA, hL, hX⟩ := id X
  replace hf : (if (s0 = 0 ∨ s0 = 1) then some (s0, F, B) else none) = some (r, F9, B9) := hf
  obtain ⟨g8, hf⟩ := gif hf
  cases hf
  exact W.zret hx hb hr (zbool g8) (fun t ht hW => ⟨⟨_, (), rfl, rfl, by rw [ht]; exact hZ, va_K.moved hW.alike hK⟩, hS.F ht⟩) hS.2.2 d_6_22_25 hlk

def f_Part_isBeamed_24 (K : zK)  (F : zF) (B : zB) : zO := f_Part_isBeamed_25 K 0 F B
set_option maxHeartbeats 4000000 in
set_option maxRecDepth 100000 in
theorem b_Part_isBeamed_24 {D : va_G} {ca : Nat → ClassId} {ad : Nat → Int → Nat → Nat} {L : List Nat} {aS vS : Nat → Nat} {A : Nat → Prop} {p : Program} {l : Launch} {e : Env} {s : State} {m : MethodId} {args : Array Value} {below : List Frame} {meth : Method} {c : Code} {K : zK} {r : Int} {F9 : zF} {B9 : zB} (X : zX D ca L aS vS A p s m args meth c prog_6_method_22_code 2 (Option.some Jvm.ClassFile.FieldType.boolean) "StaveHouse$Part")  {F : zF} {B : zB} {H : Heap} {locs : List Loc} {ls : Array Slot} (hf : f_Part_isBeamed_24 K  F B = some (r, F9, B9)) (hZ : zH D ca ad lnC K.2 L F B A H) (hS : va_S A s.heap H locs) (hl : lv_has ls 2 []) : W p l e ({ frames := 1, cells := 0, slots := 0, locals := 22 } : Room) s m args below meth c H locs 0 0 (MQ below (Q_Part_isBeamed K D ca ad L r F9 B9 A) args s 0 0 A) (F0 m 24 ls []) := by
  obtain ⟨hx, hb, hr, hml, hown, hts, hlk, hK, hA, hL, hX⟩ := id X
  replace hf : (f_Part_isBeamed_25 K 0 F B) = some (r, F9, B9) := hf
  refine lv_iconst (v := iI 0) hx hb d_6_22_24 rfl ?_
  exact b_Part_isBeamed_25 X hf hZ hS (lv_sub hl [] rfl)

def f_Part_isBeamed (K : zK) (l0 : Int) (l1 : Int) (F : zF) (B : zB) : zO := if 0 ≤ l0 ∧ l0 < K.2 4 then zbind (f_Part_isRestNote K l0 l1 F B) (fun r2 F2 B2 => if r32 r2 then (if r2 = 0 then if 0 ≤ l1 ∧ l1 < 800 then if r32 (B2 4 l0 364 l1) then (if (B2 4 l0 364 l1) < 3 then f_Part_isBeamed_24 K F2 B2 else f_Part_isBeamed_25 K 1 F2 B2) else none else none else f_Part_isBeamed_24 K F2 B2) else none) else none
set_option maxHeartbeats 4000000 in
set_option maxRecDepth 100000 in
theorem c_Part_isBeamed {l : Launch} {D : va_G} {ca : Nat → ClassId} {ad : Nat → Int → Nat → Nat} {L : List Nat} {aS vS : Nat → Nat} {sz : Nat} {K : zK}  {l0 : Int} {l1 : Int} {F F9 : zF} {B B9 : zB} {r : Int} (hf : f_Part_isBeamed K l0 l1 F B = some (r, F9, B9)) : Met l ({ cls := "StaveHouse$Part", name := "isBeamed", desc := "(I)Z" } : Jvm.MethodName) (Cond.code ({ cls := "StaveHouse$Part", name := "isBeamed", desc := "(I)Z" } : Jvm.MethodName) prog_6_method_22_code 2 (Option.some Jvm.ClassFile.FieldType.boolean) :: wAll) ({ frames := 1, cells := 0, slots := 0, locals := 22 } : Room) (va_Pc [.ref (ad 4 l0 0), .int (iI l1)] (zPre D ca ad lnC K.2 L aS vS F B sz)) (Q_Part_isBeamed K D ca ad L r F9 B9 (zA L sz)) 0 0 (zA L sz) := by
  refine zMet (Qc := Q_Part_isBeamed K D ca ad L r F9 B9) (lv := [(0, .ref (ad 4 l0 0)), (1, .int (iI l1))]) (by decide) (Nat.le_of_ble_eq_true rfl) rfl (fun A p e s m below meth c ls X hZ hS hl => ?_)
  obtain ⟨hx, hb, hr, hml, hown, hts, hlk, hK, hA, hL, hX⟩ := id X
  replace hf : (if 0 ≤ l0 ∧ l0 < K.2 4 then zbind (f_Part_isRestNote K l0 l1 F B) (fun r2 F2 B2 => if r32 r2 then (if r2 = 0 then if 0 ≤ l1 ∧ l1 < 800 then if r32 (B2 4 l0 364 l1) then (if (B2 4 l0 364 l1) < 3 then f_Part_isBeamed_24 K F2 B2 else f_Part_isBeamed_25 K 1 F2 B2) else none else none else f_Part_isBeamed_24 K F2 B2) else none) else none) = some (r, F9, B9) := hf
  refine lv_aload_n hx hb d_6_22_0 rfl (lv_at hl 0 rfl) ?_
  refine lv_iload_n hx hb d_6_22_1 rfl (lv_at hl 1 rfl) ?_
  obtain ⟨g1, hf⟩ := gif hf
  obtain ⟨r2, F2, B2, hc2, hf⟩ := gbind hf
  refine va_calli (va_runV (As := [.int (iI l1)]) (rest := []) ⟨hx, hb, hml, hown, hts⟩ (c_Part_isRestNote (l := l) hc2) (cwV 1 hts (gdV k_5_104 k_5_106 ks_54 k_1_18 k_5_107) rfl rfl rfl (by decide +kernel) ⟨Nat.le_of_ble_eq_true rfl, Nat.le_of_ble_eq_true rfl⟩) (zPV X hZ hS (ci := 4) g1.1 g1.2 (r := (RX4, TX4, 13)) rfl [.int (iI l1)]) rfl rfl hl.1 rfl (lv_room (Nat.le_of_ble_eq_true rfl)) d_6_22_2 ⟨Nat.le_of_ble_eq_true rfl, Nat.le_of_ble_eq_true rfl⟩) hS (fun q _ h => zAin X hS q h) (zAin X hS) (fun p2 u2 t2 H2 locs2 ht2 hv2 hw2 hB2 hz2 hk2 hS2 => ?_)
  have hZ2 := zBack X ht2 hB2
  subst hw2
  obtain ⟨g3, hf⟩ := gif hf
  refine z0ne (tgt := 24) hx hb g3 d_6_22_5 (by decide) (fun h4 => ?_) (fun h4 => ?_)
  · replace hf := gneg hf h4
    exact b_Part_isBeamed_24 X hf hZ2 hS2 (lv_sub hl [] rfl)
  · replace hf := gpos hf h4
    refine lv_aload_n hx hb d_6_22_8 rfl (lv_at hl 0 rfl) ?_
    refine zget (ci := 4) (C := RX4) (T := TX4) (v := .ref (ad 4 l0 (8 + 1))) (k := 8) hx hb hts inW_4 hown hK hZ2 g1.1 g1.2 rfl (by decide) k_4_142 rfl d_6_22_9 ?_
    refine lv_iconst (v := iI 4) hx hb d_6_22_12 rfl ?_
    refine zaldQ (t := 0) (ci := 4) (k := 8) hx hb hK rfl hZ2 g1.1 g1.2 rfl (Nat.le_of_ble_eq_true rfl) (by decide) (by decide) d_6_22_13 ?_
    refine W.eq (g2 := F0 m 14 ls [.ref (ad 4 l0 (364 + 1))]) rfl ?_
    refine lv_iload_n hx hb d_6_22_14 rfl (lv_at hl 1 rfl) ?_
    obtain ⟨g5, hf⟩ := gif hf
    refine zald (ci := 4) (k := 364) hx hb hK rfl hZ2 g1.1 g1.2 rfl (Nat.le_of_ble_eq_true rfl) g5.1 g5.2 d_6_22_15 ?_
    refine lv_iconst (v := iI 3) hx hb d_6_22_16 rfl ?_
    obtain ⟨g6, hf⟩ := gif hf
    refine zlt (tgt := 24) hx hb g6 (by decide) d_6_22_17 (by decide) (fun h7 => ?_) (fun h7 => ?_)
    · replace hf := gpos hf h7
      exact b_Part_isBeamed_24 X hf hZ2 hS2 (lv_sub hl [] rfl)
    · replace hf := gneg hf h7
      refine lv_iconst (v := iI 1) hx hb d_6_22_20 rfl ?_
      refine lv_goto (tgt := 25) hx hb d_6_22_21 (by decide) ?_
      exact b_Part_isBeamed_25 X hf hZ2 hS2 (lv_sub hl [] rfl)

abbrev Q_Part_beamsWith (K : zK) (D : va_G) (ca : Nat → ClassId) (ad : Nat → Int → Nat → Nat) (L : List Nat) (r : Int) (F : zF) (B : zB) (A : Nat → Prop) : Array Value → State → Outcome → State → Prop := va_Qi (S := Unit) (fun p _ => p = iI r) (fun _ => zPo D ca ad lnC K.2 L F B A) A
def f_Part_beamsWith_60 (K : zK) (s0 : Int) (F : zF) (B : zB) : zO := if (s0 = 0 ∨ s0 = 1) then some (s0, F, B) else none
set_option maxHeartbeats 4000000 in
set_option maxRecDepth 100000 in
theorem b_Part_beamsWith_60 {D : va_G} {ca : Nat → ClassId} {ad : Nat → Int → Nat → Nat} {L : List Nat} {aS vS : Nat → Nat} {A : Nat → Prop} {p : Program} {l : Launch} {e : Env} {s : State} {m : MethodId} {args : Array Value} {below : List Frame} {meth : Method} {c : Code} {K : zK} {r : Int} {F9 : zF} {B9 : zB} (X : zX D ca L aS vS A p s m args meth c prog_6_method_23_code 5 (Option.some Jvm.ClassFile.FieldType.boolean) "StaveHouse$Part") {s0 : Int} {F : zF} {B : zB} {H : Heap} {locs : List Loc} {ls : Array Slot} (hf : f_Part_beamsWith_60 K s0 F B = some (r, F9, B9)) (hZ : zH D ca ad lnC K.2 L F B A H) (hS : va_S A s.heap H locs) (hl : lv_has ls 5 []) : W p l e ({ frames := 2, cells := 0, slots := 0, locals := 43 } : Room) s m args below meth c H locs 0 0 (MQ below (Q_Part_beamsWith K D ca ad L r F9 B9 A) args s 0 0 A) (F0 m 60 ls [.int (iI s0)]) := by
  obtain ⟨hx, hb, hr, hml, hown, hts, hlk, hK, hA, hL, hX⟩ := id X
  replace hf : (if (s0 = 0 ∨ s0 = 1) then some (s0, F, B) else none) = some (r, F9, B9) := hf
  obtain ⟨g17, hf⟩ := gif hf
  cases hf
  exact W.zret hx hb hr (zbool g17) (fun t ht hW => ⟨⟨_, (), rfl, rfl, by rw [ht]; exact hZ, va_K.moved hW.alike hK⟩, hS.F ht⟩) hS.2.2 d_6_23_60 hlk

def f_Part_beamsWith_59 (K : zK)  (F : zF) (B : zB) : zO := f_Part_beamsWith_60 K 0 F B
set_option maxHeartbeats 4000000 in
set_option maxRecDepth 100000 in
theorem b_Part_beamsWith_59 {D : va_G} {ca : Nat → ClassId} {ad : Nat → Int → Nat → Nat} {L : List Nat} {aS vS : Nat → Nat} {A : Nat → Prop} {p : Program} {l : Launch} {e : Env} {s : State} {m : MethodId} {args : Array Value} {below : List Frame} {meth : Method} {c : Code} {K : zK} {r : Int} {F9 : zF} {B9 : zB} (X : zX D ca L aS vS A p s m args meth c prog_6_method_23_code 5 (Option.some Jvm.ClassFile.FieldType.boolean) "StaveHouse$Part")  {F : zF} {B : zB} {H : Heap} {locs : List Loc} {ls : Array Slot} (hf : f_Part_beamsWith_59 K  F B = some (r, F9, B9)) (hZ : zH D ca ad lnC K.2 L F B A H) (hS : va_S A s.heap H locs) (hl : lv_has ls 5 []) : W p l e ({ frames := 2, cells := 0, slots := 0, locals := 43 } : Room) s m args below meth c H locs 0 0 (MQ below (Q_Part_beamsWith K D ca ad L r F9 B9 A) args s 0 0 A) (F0 m 59 ls []) := by
  obtain ⟨hx, hb, hr, hml, hown, hts, hlk, hK, hA, hL, hX⟩ := id X
  replace hf : (f_Part_beamsWith_60 K 0 F B) = some (r, F9, B9) := hf
  refine lv_iconst (v := iI 0) hx hb d_6_23_59 rfl ?_
  exact b_Part_beamsWith_60 X hf hZ hS (lv_sub hl [] rfl)

def f_Part_beamsWith (K : zK) (l0 : Int) (l1 : Int) (l2 : Int) (l3 : Int) (F : zF) (B : zB) : zO := if 0 ≤ l0 ∧ l0 < K.2 4 then if r32 l2 then if r32 (F 4 l0 10) then (if (F 4 l0 10) ≤ l2 then f_Part_beamsWith_59 K F B else zbind (f_Part_isBeamed K l0 l2 F B) (fun r5 F5 B5 => if r32 r5 then (if r5 = 0 then f_Part_beamsWith_59 K F5 B5 else if 0 ≤ l1 ∧ l1 < 800 then if 0 ≤ l2 ∧ l2 < 800 then if r32 (B5 4 l0 361 l1) then if r32 (B5 4 l0 361 l2) then (if (B5 4 l0 361 l1) = (B5 4 l0 361 l2) then if ¬ lI l3 = 0 then if r64 (zldv (B5 4 l0 9 l1) l3) then if r64 (zldv (B5 4 l0 9 l2) l3) then (if (zcmp (zldv (B5 4 l0 9 l1) l3) (zldv (B5 4 l0 9 l2) l3)) = 0 then f_Part_beamsWith_60 K 1 F5 B5 else f_Part_beamsWith_59 K F5 B5) else none else none else none else f_Part_beamsWith_59 K F5 B5) else none else none else none else none) else none)) else none else none else none
set_option maxHeartbeats 4000000 in
set_option maxRecDepth 100000 in
theorem c_Part_beamsWith {l : Launch} {D : va_G} {ca : Nat → ClassId} {ad : Nat → Int → Nat → Nat} {L : List Nat} {aS vS : Nat → Nat} {sz : Nat} {K : zK}  {l0 : Int} {l1 : Int} {l2 : Int} {l3 : Int} {F F9 : zF} {B B9 : zB} {r : Int} (hf : f_Part_beamsWith K l0 l1 l2 l3 F B = some (r, F9, B9)) : Met l ({ cls := "StaveHouse$Part", name := "beamsWith", desc := "(IIJ)Z" } : Jvm.MethodName) (Cond.code ({ cls := "StaveHouse$Part", name := "beamsWith", desc := "(IIJ)Z" } : Jvm.MethodName) prog_6_method_23_code 5 (Option.some Jvm.ClassFile.FieldType.boolean) :: wAll) ({ frames := 2, cells := 0, slots := 0, locals := 43 } : Room) (va_Pc [.ref (ad 4 l0 0), .int (iI l1), .int (iI l2), .long (lI l3)] (zPre D ca ad lnC K.2 L aS vS F B sz)) (Q_Part_beamsWith K D ca ad L r F9 B9 (zA L sz)) 0 0 (zA L sz) := by
  refine zMet (Qc := Q_Part_beamsWith K D ca ad L r F9 B9) (lv := [(0, .ref (ad 4 l0 0)), (1, .int (iI l1)), (2, .int (iI l2)), (3, .long (lI l3))]) (by decide) (Nat.le_of_ble_eq_true rfl) rfl (fun A p e s m below meth c ls X hZ hS hl => ?_)
  obtain ⟨hx, hb, hr, hml, hown, hts, hlk, hK, hA, hL, hX⟩ := id X
  replace hf : (if 0 ≤ l0 ∧ l0 < K.2 4 then if r32 l2 then if r32 (F 4 l0 10) then (if (F 4 l0 10) ≤ l2 then f_Part_beamsWith_59 K F B else zbind (f_Part_isBeamed K l0 l2 F B) (fun r5 F5 B5 => if r32 r5 then (if r5 = 0 then f_Part_beamsWith_59 K F5 B5 else if 0 ≤ l1 ∧ l1 < 800 then if 0 ≤ l2 ∧ l2 < 800 then if r32 (B5 4 l0 361 l1) then if r32 (B5 4 l0 361 l2) then (if (B5 4 l0 361 l1) = (B5 4 l0 361 l2) then if ¬ lI l3 = 0 then if r64 (zldv (B5 4 l0 9 l1) l3) then if r64 (zldv (B5 4 l0 9 l2) l3) then (if (zcmp (zldv (B5 4 l0 9 l1) l3) (zldv (B5 4 l0 9 l2) l3)) = 0 then f_Part_beamsWith_60 K 1 F5 B5 else f_Part_beamsWith_59 K F5 B5) else none else none else none else f_Part_beamsWith_59 K F5 B5) else none else none else none else none) else none)) else none else none else none) = some (r, F9, B9) := hf
  refine lv_iload_n hx hb d_6_23_0 rfl (lv_at hl 2 rfl) ?_
  refine lv_aload_n hx hb d_6_23_1 rfl (lv_at hl 0 rfl) ?_
  obtain ⟨g1, hf⟩ := gif hf
  refine zget (ci := 4) (C := RX4) (T := TX4) (v := .int (iI (F 4 l0 10))) (k := 10) hx hb hts inW_4 hown hK hZ g1.1 g1.2 rfl (by decide) k_4_148 rfl d_6_23_2 ?_
  obtain ⟨g2, hf⟩ := gif hf
  obtain ⟨g3, hf⟩ := gif hf
  refine zge (tgt := 59) hx hb g2 g3 d_6_23_5 (by decide) (fun h4 => ?_) (fun h4 => ?_)
  · replace hf := gpos hf h4
    exact b_Part_beamsWith_59 X hf hZ hS (lv_sub hl [] rfl)
  · replace hf := gneg hf h4
    refine lv_aload_n hx hb d_6_23_8 rfl (lv_at hl 0 rfl) ?_
    refine lv_iload_n hx hb d_6_23_9 rfl (lv_at hl 2 rfl) ?_
    obtain ⟨r5, F5, B5, hc5, hf⟩ := gbind hf
    refine va_calli (va_runV (As := [.int (iI l2)]) (rest := []) ⟨hx, hb, hml, hown, hts⟩ (c_Part_isBeamed (l := l) hc5) (cwV 1 hts (gdV k_5_153 k_5_155 ks_62 k_1_18 k_5_156) rfl rfl rfl (by decide +kernel) ⟨Nat.le_of_ble_eq_true rfl, Nat.le_of_ble_eq_true rfl⟩) (zPV X hZ hS (ci := 4) g1.1 g1.2 (r := (RX4, TX4, 13)) rfl [.int (iI l2)]) rfl rfl hl.1 rfl (lv_room (Nat.le_of_ble_eq_true rfl)) d_6_23_10 ⟨Nat.le_of_ble_eq_true rfl, Nat.le_of_ble_eq_true rfl⟩) hS (fun q _ h => zAin X hS q h) (zAin X hS) (fun p5 u5 t5 H5 locs5 ht5 hv5 hw5 hB5 hz5 hk5 hS5 => ?_)
    have hZ5 := zBack X ht5 hB5
    subst hw5
    obtain ⟨g6, hf⟩ := gif hf
    refine z0eq (tgt := 59) hx hb g6 d_6_23_13 (by decide) (fun h7 => ?_) (fun h7 => ?_)
    · replace hf := gpos hf h7
      exact b_Part_beamsWith_59 X hf hZ5 hS5 (lv_sub hl [] rfl)
    · replace hf := gneg hf h7
      refine lv_aload_n hx hb d_6_23_16 rfl (lv_at hl 0 rfl) ?_
      refine zget (ci := 4) (C := RX4) (T := TX4) (v := .ref (ad 4 l0 (8 + 1))) (k := 8) hx hb hts inW_4 hown hK hZ5 g1.1 g1.2 rfl (by decide) k_4_142 rfl d_6_23_17 ?_
      refine lv_iconst (v := iI 1) hx hb d_6_23_20 rfl ?_
      refine zaldQ (t := 0) (ci := 4) (k := 8) hx hb hK rfl hZ5 g1.1 g1.2 rfl (Nat.le_of_ble_eq_true rfl) (by decide) (by decide) d_6_23_21 ?_
      refine W.eq (g2 := F0 m 22 ls [.ref (ad 4 l0 (361 + 1))]) rfl ?_
      refine lv_iload_n hx hb d_6_23_22 rfl (lv_at hl 1 rfl) ?_
      obtain ⟨g8, hf⟩ := gif hf
      refine zald (ci := 4) (k := 361) hx hb hK rfl hZ5 g1.1 g1.2 rfl (Nat.le_of_ble_eq_true rfl) g8.1 g8.2 d_6_23_23 ?_
      refine lv_aload_n hx hb d_6_23_24 rfl (lv_at hl 0 rfl) ?_
      refine zget (ci := 4) (C := RX4) (T := TX4) (v := .ref (ad 4 l0 (8 + 1))) (k := 8) hx hb hts inW_4 hown hK hZ5 g1.1 g1.2 rfl (by decide) k_4_142 rfl d_6_23_25 ?_
      refine lv_iconst (v := iI 1) hx hb d_6_23_28 rfl ?_
      refine zaldQ (t := 0) (ci := 4) (k := 8) hx hb hK rfl hZ5 g1.1 g1.2 rfl (Nat.le_of_ble_eq_true rfl) (by decide) (by decide) d_6_23_29 ?_
      refine W.eq (g2 := F0 m 30 ls [.ref (ad 4 l0 (361 + 1)), .int (iI (B5 4 l0 361 l1))]) rfl ?_
      refine lv_iload_n hx hb d_6_23_30 rfl (lv_at hl 2 rfl) ?_
      obtain ⟨g9, hf⟩ := gif hf
      refine zald (ci := 4) (k := 361) hx hb hK rfl hZ5 g1.1 g1.2 rfl (Nat.le_of_ble_eq_true rfl) g9.1 g9.2 d_6_23_31 ?_
      obtain ⟨g10, hf⟩ := gif hf
      obtain ⟨g11, hf⟩ := gif hf
      refine zne (tgt := 59) hx hb g10 g11 d_6_23_32 (by decide) (fun h12 => ?_) (fun h12 => ?_)
      · replace hf := gneg hf h12
        exact b_Part_beamsWith_59 X hf hZ5 hS5 (lv_sub hl [] rfl)
      · replace hf := gpos hf h12
        refine lv_aload_n hx hb d_6_23_35 rfl (lv_at hl 0 rfl) ?_
        refine zget (ci := 4) (C := RX4) (T := TX4) (v := .ref (ad 4 l0 (9 + 1))) (k := 9) hx hb hts inW_4 hown hK hZ5 g1.1 g1.2 rfl (by decide) k_4_145 rfl d_6_23_36 ?_
        refine lv_iload_n hx hb d_6_23_39 rfl (lv_at hl 1 rfl) ?_
        refine zlald (ci := 4) (k := 9) hx hb hK rfl hZ5 g1.1 g1.2 rfl (Nat.le_of_ble_eq_true rfl) g8.1 g8.2 d_6_23_40 ?_
        refine lv_lload_n hx hb d_6_23_41 rfl (lv_at hl 3 rfl) ?_
        obtain ⟨g13, hf⟩ := gif hf
        refine zldv_r hx hb g13 d_6_23_42 ?_
        refine lv_aload_n hx hb d_6_23_43 rfl (lv_at hl 0 rfl) ?_
        refine zget (ci := 4) (C := RX4) (T := TX4) (v := .ref (ad 4 l0 (9 + 1))) (k := 9) hx hb hts inW_4 hown hK hZ5 g1.1 g1.2 rfl (by decide) k_4_145 rfl d_6_23_44 ?_
        refine lv_iload_n hx hb d_6_23_47 rfl (lv_at hl 2 rfl) ?_
        refine zlald (ci := 4) (k := 9) hx hb hK rfl hZ5 g1.1 g1.2 rfl (Nat.le_of_ble_eq_true rfl) g9.1 g9.2 d_6_23_48 ?_
        refine lv_lload_n hx hb d_6_23_49 rfl (lv_at hl 3 rfl) ?_
        refine zldv_r hx hb g13 d_6_23_50 ?_
        obtain ⟨g14, hf⟩ := gif hf
        obtain ⟨g15, hf⟩ := gif hf
        refine zcmp_r hx hb g14 g15 d_6_23_51 ?_
        refine z0ne (tgt := 59) hx hb zcmp_32 d_6_23_52 (by decide) (fun h16 => ?_) (fun h16 => ?_)
        · replace hf := gneg hf h16
          exact b_Part_beamsWith_59 X hf hZ5 hS5 (lv_sub hl [] rfl)
        · replace hf := gpos hf h16
          refine lv_iconst (v := iI 1) hx hb d_6_23_55 rfl ?_
          refine lv_goto (tgt := 60) hx hb d_6_23_56 (by decide) ?_
          exact b_Part_beamsWith_60 X hf hZ5 hS5 (lv_sub hl [] rfl)

abbrev Q_Part_setStems (K : zK) (D : va_G) (ca : Nat → ClassId) (ad : Nat → Int → Nat → Nat) (L : List Nat) (r : Int) (F : zF) (B : zB) (A : Nat → Prop) : Array Value → State → Outcome → State → Prop := va_Qv (S := Unit) (fun _ => True) (fun _ => zPo D ca ad lnC K.2 L F B A) A
def f_Part_setStems_211 (K : zK)  (F : zF) (B : zB) : zO := some (0, F, B)
set_option maxHeartbeats 4000000 in
set_option maxRecDepth 100000 in
theorem b_Part_setStems_211 {D : va_G} {ca : Nat → ClassId} {ad : Nat → Int → Nat → Nat} {L : List Nat} {aS vS : Nat → Nat} {A : Nat → Prop} {p : Program} {l : Launch} {e : Env} {s : State} {m : MethodId} {args : Array Value} {below : List Frame} {meth : Method} {c : Code} {K : zK} {r : Int} {F9 : zF} {B9 : zB} (X : zX D ca L aS vS A p s m args meth c prog_6_method_25_code 7 (Option.none : Option Jvm.ClassFile.FieldType) "StaveHouse$Part")  {F : zF} {B : zB} {H : Heap} {locs : List Loc} {ls : Array Slot} (hf : f_Part_setStems_211 K  F B = some (r, F9, B9)) (hZ : zH D ca ad lnC K.2 L F B A H) (hS : va_S A s.heap H locs) (hl : lv_has ls 7 []) : W p l e ({ frames := 2, cells := 0, slots := 0, locals := 36 } : Room) s m args below meth c H locs 0 0 (MQ below (Q_Part_setStems K D ca ad L r F9 B9 A) args s 0 0 A) (F0 m 211 ls []) := by
  obtain ⟨hx, hb, hr, hml, hown, hts, hlk, hK, hA, hL, hX⟩ := id X
  replace hf : (some (0, F, B)) = some (r, F9, B9) := hf
  cases hf
  exact W.vret hx hb hr (fun t ht hW => ⟨⟨(), rfl, trivial, by rw [ht]; exact hZ, va_K.moved hW.alike hK⟩, hS.F ht⟩) hS.2.2 d_6_25_211 hlk

def f_Part_setStems_194 (rec4 : Int → Int → Int → zF → zB → zO) (rec130 : Int → Int → Int → Int → Int → Int → zF → zB → zO) (K : zK) (l5 : Int) (l4 : Int) (l3 : Int) (l2 : Int) (l1 : Int) (l0 : Int) (s0 : Int) (s1 : Int) (s2 : Int) (F : zF) (B : zB) : zO := if 0 ≤ s0 ∧ s0 < K.2 4 then if 0 ≤ s1 ∧ s1 < 800 then rec130 (l5 + 1) l4 l3 l2 l1 l0 F (zup4 B 4 s0 371 s1 s2) else none else none
set_option maxHeartbeats 4000000 in
set_option maxRecDepth 100000 in
theorem b_Part_setStems_194 {D : va_G} {ca : Nat → ClassId} {ad : Nat → Int → Nat → Nat} {L : List Nat} {aS vS : Nat → Nat} {A : Nat → Prop} {p : Program} {l : Launch} {e : Env} {s : State} {m : MethodId} {args : Array Value} {below : List Frame} {meth : Method} {c : Code} {K : zK} {r : Int} {F9 : zF} {B9 : zB} (X : zX D ca L aS vS A p s m args meth c prog_6_method_25_code 7 (Option.none : Option Jvm.ClassFile.FieldType) "StaveHouse$Part") {rec4 : Int → Int → Int → zF → zB → zO} {rec130 : Int → Int → Int → Int → Int → Int → zF → zB → zO} (hrec4 : ∀ {l2 : Int} {l1 : Int} {l0 : Int} {F : zF} {B : zB} {H : Heap} {locs : List Loc} {ls : Array Slot}, rec4 l2 l1 l0 F B = some (r, F9, B9) → zH D ca ad lnC K.2 L F B A H → va_S A s.heap H locs → lv_has ls 7 [(2, .int (iI l2)), (1, .int (iI l1)), (0, .ref (ad 4 l0 0))] → W p l e ({ frames := 2, cells := 0, slots := 0, locals := 36 } : Room) s m args below meth c H locs 0 0 (MQ below (Q_Part_setStems K D ca ad L r F9 B9 A) args s 0 0 A) (F0 m 4 ls [])) (hrec130 : ∀ {l5 : Int} {l4 : Int} {l3 : Int} {l2 : Int} {l1 : Int} {l0 : Int} {F : zF} {B : zB} {H : Heap} {locs : List Loc} {ls : Array Slot}, rec130 l5 l4 l3 l2 l1 l0 F B = some (r, F9, B9) → zH D ca ad lnC K.2 L F B A H → va_S A s.heap H locs → lv_has ls 7 [(5, .int (iI l5)), (4, .int (iI l4)), (3, .int (iI l3)), (2, .int (iI l2)), (1, .int (iI l1)), (0, .ref (ad 4 l0 0))] → W p l e ({ frames := 2, cells := 0, slots := 0, locals := 36 } : Room) s m args below meth c H locs 0 0 (MQ below (Q_Part_setStems K D ca ad L r F9 B9 A) args s 0 0 A) (F0 m 130 ls [])) {l5 : Int} {l4 : Int} {l3 : Int} {l2 : Int} {l1 : Int} {l0 : Int} {s0 : Int} {s1 : Int} {s2 : Int} {F : zF} {B : zB} {H : Heap} {locs : List Loc} {ls : Array Slot} (hf : f_Part_setStems_194 rec4 rec130 K l5 l4 l3 l2 l1 l0 s0 s1 s2 F B = some (r, F9, B9)) (hZ : zH D ca ad lnC K.2 L F B A H) (hS : va_S A s.heap H locs) (hl : lv_has ls 7 [(5, .int (iI l5)), (4, .int (iI l4)), (3, .int (iI l3)), (2, .int (iI l2)), (1, .int (iI l1)), (0, .ref (ad 4 l0 0))]) : W p l e ({ frames := 2, cells := 0, slots := 0, locals := 36 } : Room) s m args below meth c H locs 0 0 (MQ below (Q_Part_setStems K D ca ad L r F9 B9 A) args s 0 0 A) (F0 m 194 ls [.int (iI s2), .int (iI s1), .ref (ad 4 s0 (371 + 1))]) := by
  obtain ⟨hx, hb, hr, hml, hown, hts, hlk, hK, hA, hL, hX⟩ := id X
  replace hf : (if 0 ≤ s0 ∧ s0 < K.2 4 then if 0 ≤ s1 ∧ s1 < 800 then rec130 (l5 + 1) l4 l3 l2 l1 l0 F (zup4 B 4 s0 371 s1 s2) else none else none) = some (r, F9, B9) := hf
  obtain ⟨g42, hf⟩ := gif hf
  obtain ⟨g43, hf⟩ := gif hf
  refine zast (ci := 4) (k := 371) hx hb hK rfl hZ hS g42.1 g42.2 rfl (Nat.le_of_ble_eq_true rfl) g43.1 g43.2 d_6_25_194 (fun H44 locs44 hZ44 hS44 => ?_)
  refine lv_iinc (v := iI (l5 + 1)) (lv' := [(5, .int (iI (l5 + 1))), (4, .int (iI l4)), (3, .int (iI l3)), (2, .int (iI l2)), (1, .int (iI l1)), (0, .ref (ad 4 l0 0))]) hx hb d_6_25_195 hl (k := 0) rfl (iI_add _ 1) (by decide) rfl (fun ls hl => ?_)
  refine lv_goto (tgt := 130) hx hb d_6_25_198 (by decide) ?_
  exact hrec130 hf hZ44 hS44 (lv_sub hl [0, 1, 2, 3, 4, 5] rfl)

def f_Part_setStems_164 (rec4 : Int → Int → Int → zF → zB → zO) (rec130 : Int → Int → Int → Int → Int → Int → zF → zB → zO) (K : zK) (l5 : Int) (l4 : Int) (l3 : Int) (l2 : Int) (l1 : Int) (l0 : Int) (s0 : Int) (F : zF) (B : zB) : zO := if 0 ≤ l0 ∧ l0 < K.2 4 then if r32 s0 then (if s0 = 0 then if r32 l4 then (if 0 ≤ l4 then f_Part_setStems_194 rec4 rec130 K l5 l4 l3 l2 l1 l0 l0 l5 2 F B else f_Part_setStems_194 rec4 rec130 K l5 l4 l3 l2 l1 l0 l0 l5 1 F B) else none else f_Part_setStems_194 rec4 rec130 K l5 l4 l3 l2 l1 l0 l0 l5 0 F B) else none else none
set_option maxHeartbeats 4000000 in
set_option maxRecDepth 100000 in
theorem b_Part_setStems_164 {D : va_G} {ca : Nat → ClassId} {ad : Nat → Int → Nat → Nat} {L : List Nat} {aS vS : Nat → Nat} {A : Nat → Prop} {p : Program} {l : Launch} {e : Env} {s : State} {m : MethodId} {args : Array Value} {below : List Frame} {meth : Method} {c : Code} {K : zK} {r : Int} {F9 : zF} {B9 : zB} (X : zX D ca L aS vS A p s m args meth c prog_6_method_25_code 7 (Option.none : Option Jvm.ClassFile.FieldType) "StaveHouse$Part") {rec4 : Int → Int → Int → zF → zB → zO} {rec130 : Int → Int → Int → Int → Int → Int → zF → zB → zO} (hrec4 : ∀ {l2 : Int} {l1 : Int} {l0 : Int} {F : zF} {B : zB} {H : Heap} {locs : List Loc} {ls : Array Slot}, rec4 l2 l1 l0 F B = some (r, F9, B9) → zH D ca ad lnC K.2 L F B A H → va_S A s.heap H locs → lv_has ls 7 [(2, .int (iI l2)), (1, .int (iI l1)), (0, .ref (ad 4 l0 0))] → W p l e ({ frames := 2, cells := 0, slots := 0, locals := 36 } : Room) s m args below meth c H locs 0 0 (MQ below (Q_Part_setStems K D ca ad L r F9 B9 A) args s 0 0 A) (F0 m 4 ls [])) (hrec130 : ∀ {l5 : Int} {l4 : Int} {l3 : Int} {l2 : Int} {l1 : Int} {l0 : Int} {F : zF} {B : zB} {H : Heap} {locs : List Loc} {ls : Array Slot}, rec130 l5 l4 l3 l2 l1 l0 F B = some (r, F9, B9) → zH D ca ad lnC K.2 L F B A H → va_S A s.heap H locs → lv_has ls 7 [(5, .int (iI l5)), (4, .int (iI l4)), (3, .int (iI l3)), (2, .int (iI l2)), (1, .int (iI l1)), (0, .ref (ad 4 l0 0))] → W p l e ({ frames := 2, cells := 0, slots := 0, locals := 36 } : Room) s m args below meth c H locs 0 0 (MQ below (Q_Part_setStems K D ca ad L r F9 B9 A) args s 0 0 A) (F0 m 130 ls [])) {l5 : Int} {l4 : Int} {l3 : Int} {l2 : Int} {l1 : Int} {l0 : Int} {s0 : Int} {F : zF} {B : zB} {H : Heap} {locs : List Loc} {ls : Array Slot} (hf : f_Part_setStems_164 rec4 rec130 K l5 l4 l3 l2 l1 l0 s0 F B = some (r, F9, B9)) (hZ : zH D ca ad lnC K.2 L F B A H) (hS : va_S A s.heap H locs) (hl : lv_has ls 7 [(5, .int (iI l5)), (4, .int (iI l4)), (3, .int (iI l3)), (2, .int (iI l2)), (1, .int (iI l1)), (0, .ref (ad 4 l0 0))]) : W p l e ({ frames := 2, cells := 0, slots := 0, locals := 36 } : Room) s m args below meth c H locs 0 0 (MQ below (Q_Part_setStems K D ca ad L r F9 B9 A) args s 0 0 A) (F0 m 164 ls [.int (iI s0)]) := by
  obtain ⟨hx, hb, hr, hml, hown, hts, hlk, hK, hA, hL, hX⟩ := id X
  replace hf : (if 0 ≤ l0 ∧ l0 < K.2 4 then if r32 s0 then (if s0 = 0 then if r32 l4 then (if 0 ≤ l4 then f_Part_setStems_194 rec4 rec130 K l5 l4 l3 l2 l1 l0 l0 l5 2 F B else f_Part_setStems_194 rec4 rec130 K l5 l4 l3 l2 l1 l0 l0 l5 1 F B) else none else f_Part_setStems_194 rec4 rec130 K l5 l4 l3 l2 l1 l0 l0 l5 0 F B) else none else none) = some (r, F9, B9) := hf
  refine lv_istore (lv' := [(6, .int (iI s0)), (5, .int (iI l5)), (4, .int (iI l4)), (3, .int (iI l3)), (2, .int (iI l2)), (1, .int (iI l1)), (0, .ref (ad 4 l0 0))]) hx hb d_6_25_164 hl (by decide) rfl (fun ls hl => ?_)
  refine lv_aload_n hx hb d_6_25_166 rfl (lv_at hl 6 rfl) ?_
  obtain ⟨g37, hf⟩ := gif hf
  refine zget (ci := 4) (C := RX4) (T := TX4) (v := .ref (ad 4 l0 (8 + 1))) (k := 8) hx hb hts inW_4 hown hK hZ g37.1 g37.2 rfl (by decide) k_4_142 rfl d_6_25_167 ?_
  refine lv_bipush (v := iI 11) hx hb d_6_25_170 (by decide) ?_
  refine zaldQ (t := 0) (ci := 4) (k := 8) hx hb hK rfl hZ g37.1 g37.2 rfl (Nat.le_of_ble_eq_true rfl) (by decide) (by decide) d_6_25_172 ?_
  refine W.eq (g2 := F0 m 173 ls [.ref (ad 4 l0 (371 + 1))]) rfl ?_
  refine lv_iload hx hb d_6_25_173 (lv_at hl 1 rfl) ?_
  refine lv_iload hx hb d_6_25_175 (lv_at hl 0 rfl) ?_
  obtain ⟨g38, hf⟩ := gif hf
  refine z0eq (tgt := 184) hx hb g38 d_6_25_177 (by decide) (fun h39 => ?_) (fun h39 => ?_)
  · replace hf := gpos hf h39
    refine lv_iload hx hb d_6_25_184 (lv_at hl 2 rfl) ?_
    obtain ⟨g40, hf⟩ := gif hf
    refine z0ge (tgt := 193) hx hb g40 d_6_25_186 (by decide) (fun h41 => ?_) (fun h41 => ?_)
    · replace hf := gpos hf h41
      refine lv_iconst (v := iI 2) hx hb d_6_25_193 rfl ?_
      exact b_Part_setStems_194 X hrec4 hrec130 hf hZ hS (lv_sub hl [1, 2, 3, 4, 5, 6] rfl)
    · replace hf := gneg hf h41
      refine lv_iconst (v := iI 1) hx hb d_6_25_189 rfl ?_
      refine lv_goto (tgt := 194) hx hb d_6_25_190 (by decide) ?_
      exact b_Part_setStems_194 X hrec4 hrec130 hf hZ hS (lv_sub hl [1, 2, 3, 4, 5, 6] rfl)
  · replace hf := gneg hf h39
    refine lv_iconst (v := iI 0) hx hb d_6_25_180 rfl ?_
    refine lv_goto (tgt := 194) hx hb d_6_25_181 (by decide) ?_
    exact b_Part_setStems_194 X hrec4 hrec130 hf hZ hS (lv_sub hl [1, 2, 3, 4, 5, 6] rfl)

def f_Part_setStems_159 (rec4 : Int → Int → Int → zF → zB → zO) (rec130 : Int → Int → Int → Int → Int → Int → zF → zB → zO) (K : zK) (l5 : Int) (l4 : Int) (l3 : Int) (l2 : Int) (l1 : Int) (l0 : Int) (F : zF) (B : zB) : zO := f_Part_setStems_164 rec4 rec130 K l5 l4 l3 l2 l1 l0 1 F B
set_option maxHeartbeats 4000000 in
set_option maxRecDepth 100000 in
theorem b_Part_setStems_159 {D : va_G} {ca : Nat → ClassId} {ad : Nat → Int → Nat → Nat} {L : List Nat} {aS vS : Nat → Nat} {A : Nat → Prop} {p : Program} {l : Launch} {e : Env} {s : State} {m : MethodId} {args : Array Value} {below : List Frame} {meth : Method} {c : Code} {K : zK} {r : Int} {F9 : zF} {B9 : zB} (X : zX D ca L aS vS A p s m args meth c prog_6_method_25_code 7 (Option.none : Option Jvm.ClassFile.FieldType) "StaveHouse$Part") {rec4 : Int → Int → Int → zF → zB → zO} {rec130 : Int → Int → Int → Int → Int → Int → zF → zB → zO} (hrec4 : ∀ {l2 : Int} {l1 : Int} {l0 : Int} {F : zF} {B : zB} {H : Heap} {locs : List Loc} {ls : Array Slot}, rec4 l2 l1 l0 F B = some (r, F9, B9) → zH D ca ad lnC K.2 L F B A H → va_S A s.heap H locs → lv_has ls 7 [(2, .int (iI l2)), (1, .int (iI l1)), (0, .ref (ad 4 l0 0))] → W p l e ({ frames := 2, cells := 0, slots := 0, locals := 36 } : Room) s m args below meth c H locs 0 0 (MQ below (Q_Part_setStems K D ca ad L r F9 B9 A) args s 0 0 A) (F0 m 4 ls [])) (hrec130 : ∀ {l5 : Int} {l4 : Int} {l3 : Int} {l2 : Int} {l1 : Int} {l0 : Int} {F : zF} {B : zB} {H : Heap} {locs : List Loc} {ls : Array Slot}, rec130 l5 l4 l3 l2 l1 l0 F B = some (r, F9, B9) → zH D ca ad lnC K.2 L F B A H → va_S A s.heap H locs → lv_has ls 7 [(5, .int (iI l5)), (4, .int (iI l4)), (3, .int (iI l3)), (2, .int (iI l2)), (1, .int (iI l1)), (0, .ref (ad 4 l0 0))] → W p l e ({ frames := 2, cells := 0, slots := 0, locals := 36 } : Room) s m args below meth c H locs 0 0 (MQ below (Q_Part_setStems K D ca ad L r F9 B9 A) args s 0 0 A) (F0 m 130 ls [])) {l5 : Int} {l4 : Int} {l3 : Int} {l2 : Int} {l1 : Int} {l0 : Int} {F : zF} {B : zB} {H : Heap} {locs : List Loc} {ls : Array Slot} (hf : f_Part_setStems_159 rec4 rec130 K l5 l4 l3 l2 l1 l0 F B = some (r, F9, B9)) (hZ : zH D ca ad lnC K.2 L F B A H) (hS : va_S A s.heap H locs) (hl : lv_has ls 7 [(5, .int (iI l5)), (4, .int (iI l4)), (3, .int (iI l3)), (2, .int (iI l2)), (1, .int (iI l1)), (0, .ref (ad 4 l0 0))]) : W p l e ({ frames := 2, cells := 0, slots := 0, locals := 36 } : Room) s m args below meth c H locs 0 0 (MQ below (Q_Part_setStems K D ca ad L r F9 B9 A) args s 0 0 A) (F0 m 159 ls []) := by
  obtain ⟨hx, hb, hr, hml, hown, hts, hlk, hK, hA, hL, hX⟩ := id X
  replace hf : (f_Part_setStems_164 rec4 rec130 K l5 l4 l3 l2 l1 l0 1 F B) = some (r, F9, B9) := hf
  refine lv_iconst (v := iI 1) hx hb d_6_25_159 rfl ?_
  refine lv_goto (tgt := 164) hx hb d_6_25_160 (by decide) ?_
  exact b_Part_setStems_164 X hrec4 hrec130 hf hZ hS (lv_sub hl [0, 1, 2, 3, 4, 5] rfl)

def f_Part_setStems_130 (rec4 : Int → Int → Int → zF → zB → zO) (K : zK) : Nat → Int → Int → Int → Int → Int → Int → zF → zB → zO
  | 0, _, _, _, _, _, _, _, _ => none
  | n + 1, l5, l4, l3, l2, l1, l0, F, B => if r32 l5 then if r32 (l1 + l3) then (if (l1 + l3) ≤ l5 then rec4 (l2 + 1) (l1 + l3) l0 F B else if 0 ≤ l0 ∧ l0 < K.2 4 then zbind (f_Part_isRestNote K l0 l5 F B) (fun r30 F30 B30 => if r32 r30 then (if r30 = 0 then if 0 ≤ l5 ∧ l5 < 800 then if r32 (B30 4 l0 364 l5) then (if (B30 4 l0 364 l5) = 0 then f_Part_setStems_159 rec4 (f_Part_setStems_130 rec4 K n) K l5 l4 l3 l2 l1 l0 F30 B30 else f_Part_setStems_164 rec4 (f_Part_setStems_130 rec4 K n) K l5 l4 l3 l2 l1 l0 0 F30 B30) else none else none else f_Part_setStems_159 rec4 (f_Part_setStems_130 rec4 K n) K l5 l4 l3 l2 l1 l0 F30 B30) else none) else none) else none else none
set_option maxHeartbeats 4000000 in
set_option maxRecDepth 100000 in
theorem b_Part_setStems_130 {D : va_G} {ca : Nat → ClassId} {ad : Nat → Int → Nat → Nat} {L : List Nat} {aS vS : Nat → Nat} {A : Nat → Prop} {p : Program} {l : Launch} {e : Env} {s : State} {m : MethodId} {args : Array Value} {below : List Frame} {meth : Method} {c : Code} {K : zK} {r : Int} {F9 : zF} {B9 : zB} (X : zX D ca L aS vS A p s m args meth c prog_6_method_25_code 7 (Option.none : Option Jvm.ClassFile.FieldType) "StaveHouse$Part") {rec4 : Int → Int → Int → zF → zB → zO} (hrec4 : ∀ {l2 : Int} {l1 : Int} {l0 : Int} {F : zF} {B : zB} {H : Heap} {locs : List Loc} {ls : Array Slot}, rec4 l2 l1 l0 F B = some (r, F9, B9) → zH D ca ad lnC K.2 L F B A H → va_S A s.heap H locs → lv_has ls 7 [(2, .int (iI l2)), (1, .int (iI l1)), (0, .ref (ad 4 l0 0))] → W p l e ({ frames := 2, cells := 0, slots := 0, locals := 36 } : Room) s m args below meth c H locs 0 0 (MQ below (Q_Part_setStems K D ca ad L r F9 B9 A) args s 0 0 A) (F0 m 4 ls [])) : ∀ {n : Nat} {l5 : Int} {l4 : Int} {l3 : Int} {l2 : Int} {l1 : Int} {l0 : Int} {F : zF} {B : zB} {H : Heap} {locs : List Loc} {ls : Array Slot}, f_Part_setStems_130 rec4 K n l5 l4 l3 l2 l1 l0 F B = some (r, F9, B9) → zH D ca ad lnC K.2 L F B A H → va_S A s.heap H locs → lv_has ls 7 [(5, .int (iI l5)), (4, .int (iI l4)), (3, .int (iI l3)), (2, .int (iI l2)), (1, .int (iI l1)), (0, .ref (ad 4 l0 0))] → W p l e ({ frames := 2, cells := 0, slots := 0, locals := 36 } : Room) s m args below meth c H locs 0 0 (MQ below (Q_Part_setStems K D ca ad L r F9 B9 A) args s 0 0 A) (F0 m 130 ls []) := by
  obtain ⟨hx, hb, hr, hml, hown, hts, hlk, hK, hA, hL, hX⟩ := id X
  intro n
  induction n with
  | zero =>
    intros
    rename_i hf _ _ _
    cases hf
  | succ n ih =>
    intro l5 l4 l3 l2 l1 l0 F B H locs ls hf hZ hS hl
    replace hf : (if r32 l5 then if r32 (l1 + l3) then (if (l1 + l3) ≤ l5 then rec4 (l2 + 1) (l1 + l3) l0 F B else if 0 ≤ l0 ∧ l0 < K.2 4 then zbind (f_Part_isRestNote K l0 l5 F B) (fun r30 F30 B30 => if r32 r30 then (if r30 = 0 then if 0 ≤ l5 ∧ l5 < 800 then if r32 (B30 4 l0 364 l5) then (if (B30 4 l0 364 l5) = 0 then f_Part_setStems_159 rec4 (f_Part_setStems_130 rec4 K n) K l5 l4 l3 l2 l1 l0 F30 B30 else f_Part_setStems_164 rec4 (f_Part_setStems_130 rec4 K n) K l5 l4 l3 l2 l1 l0 0 F30 B30) else none else none else f_Part_setStems_159 rec4 (f_Part_setStems_130 rec4 K n) K l5 l4 l3 l2 l1 l0 F30 B30) else none) else none) else none else none) = some (r, F9, B9) := hf
    refine lv_iload hx hb d_6_25_130 (lv_at hl 0 rfl) ?_
    refine lv_iload_n hx hb d_6_25_132 rfl (lv_at hl 4 rfl) ?_
    refine lv_iload_n hx hb d_6_25_133 rfl (lv_at hl 2 rfl) ?_
    refine zadd hx hb d_6_25_134 ?_
    obtain ⟨g26, hf⟩ := gif hf
    obtain ⟨g27, hf⟩ := gif hf
    refine zge (tgt := 201) hx hb g26 g27 d_6_25_135 (by decide) (fun h28 => ?_) (fun h28 => ?_)
    · replace hf := gpos hf h28
      refine lv_iload_n hx hb d_6_25_201 rfl (lv_at hl 4 rfl) ?_
      refine lv_iload_n hx hb d_6_25_202 rfl (lv_at hl 2 rfl) ?_
      refine zadd hx hb d_6_25_203 ?_
      refine lv_istore_n (lv' := [(1, .int (iI (l1 + l3))), (5, .int (iI l5)), (4, .int (iI l4)), (3, .int (iI l3)), (2, .int (iI l2)), (0, .ref (ad 4 l0 0))]) hx hb d_6_25_204 rfl hl (by decide) rfl (fun ls hl => ?_)
      refine lv_iinc (v := iI (l2 + 1)) (lv' := [(2, .int (iI (l2 + 1))), (1, .int (iI (l1 + l3))), (5, .int (iI l5)), (4, .int (iI l4)), (3, .int (iI l3)), (0, .ref (ad 4 l0 0))]) hx hb d_6_25_205 hl (k := 4) rfl (iI_add _ 1) (by decide) rfl (fun ls hl => ?_)
      refine lv_goto (tgt := 4) hx hb d_6_25_208 (by decide) ?_
      exact hrec4 hf hZ hS (lv_sub hl [0, 1, 5] rfl)
    · replace hf := gneg hf h28
      refine lv_aload_n hx hb d_6_25_138 rfl (lv_at hl 5 rfl) ?_
      refine lv_iload hx hb d_6_25_139 (lv_at hl 0 rfl) ?_
      obtain ⟨g29, hf⟩ := gif hf
      obtain ⟨r30, F30, B30, hc30, hf⟩ := gbind hf
      refine va_calli (va_runV (As := [.int (iI l5)]) (rest := []) ⟨hx, hb, hml, hown, hts⟩ (c_Part_isRestNote (l := l) hc30) (cwV 1 hts (gdV k_5_104 k_5_106 ks_54 k_1_18 k_5_107) rfl rfl rfl (by decide +kernel) ⟨Nat.le_of_ble_eq_true rfl, Nat.le_of_ble_eq_true rfl⟩) (zPV X hZ hS (ci := 4) g29.1 g29.2 (r := (RX4, TX4, 13)) rfl [.int (iI l5)]) rfl rfl hl.1 rfl (lv_room (Nat.le_of_ble_eq_true rfl)) d_6_25_141 ⟨Nat.le_of_ble_eq_true rfl, Nat.le_of_ble_eq_true rfl⟩) hS (fun q _ h => zAin X hS q h) (zAin X hS) (fun p30 u30 t30 H30 locs30 ht30 hv30 hw30 hB30 hz30 hk30 hS30 => ?_)
      have hZ30 := zBack X ht30 hB30
      subst hw30
      obtain ⟨g31, hf⟩ := gif hf
      refine z0ne (tgt := 159) hx hb g31 d_6_25_144 (by decide) (fun h33 => ?_) (fun h33 => ?_)
      · replace hf := gneg hf h33
        exact b_Part_setStems_159 X hrec4 ih hf hZ30 hS30 (lv_sub hl [0, 1, 2, 3, 4, 5] rfl)
      · replace hf := gpos hf h33
        refine lv_aload_n hx hb d_6_25_147 rfl (lv_at hl 5 rfl) ?_
        refine zget (ci := 4) (C := RX4) (T := TX4) (v := .ref (ad 4 l0 (8 + 1))) (k := 8) hx hb hts inW_4 hown hK hZ30 g29.1 g29.2 rfl (by decide) k_4_142 rfl d_6_25_148 ?_
        refine lv_iconst (v := iI 4) hx hb d_6_25_151 rfl ?_
        refine zaldQ (t := 0) (ci := 4) (k := 8) hx hb hK rfl hZ30 g29.1 g29.2 rfl (Nat.le_of_ble_eq_true rfl) (by decide) (by decide) d_6_25_152 ?_
        refine W.eq (g2 := F0 m 153 ls [.ref (ad 4 l0 (364 + 1))]) rfl ?_
        refine lv_iload hx hb d_6_25_153 (lv_at hl 0 rfl) ?_
        obtain ⟨g34, hf⟩ := gif hf
        refine zald (ci := 4) (k := 364) hx hb hK rfl hZ30 g29.1 g29.2 rfl (Nat.le_of_ble_eq_true rfl) g34.1 g34.2 d_6_25_155 ?_
        obtain ⟨g35, hf⟩ := gif hf
        refine z0ne (tgt := 163) hx hb g35 d_6_25_156 (by decide) (fun h36 => ?_) (fun h36 => ?_)
        · replace hf := gneg hf h36
          refine lv_iconst (v := iI 0) hx hb d_6_25_163 rfl ?_
          exact b_Part_setStems_164 X hrec4 ih hf hZ30 hS30 (lv_sub hl [0, 1, 2, 3, 4, 5] rfl)
        · replace hf := gpos hf h36
          exact b_Part_setStems_159 X hrec4 ih hf hZ30 hS30 (lv_sub hl [0, 1, 2, 3, 4, 5] rfl)

def f_Part_setStems_118 (rec4 : Int → Int → Int → zF → zB → zO) (rec79 : Int → Int → Int → Int → Int → Int → zF → zB → zO) (K : zK) (l5 : Int) (l3 : Int) (l2 : Int) (l1 : Int) (l0 : Int) (s0 : Int) (s1 : Int) (F : zF) (B : zB) : zO := rec79 (l5 + 1) (s0 + s1) l3 l2 l1 l0 F B
set_option maxHeartbeats 4000000 in
set_option maxRecDepth 100000 in
theorem b_Part_setStems_118 {D : va_G} {ca : Nat → ClassId} {ad : Nat → Int → Nat → Nat} {L : List Nat} {aS vS : Nat → Nat} {A : Nat → Prop} {p : Program} {l : Launch} {e : Env} {s : State} {m : MethodId} {args : Array Value} {below : List Frame} {meth : Method} {c : Code} {K : zK} {r : Int} {F9 : zF} {B9 : zB} (X : zX D ca L aS vS A p s m args meth c prog_6_method_25_code 7 (Option.none : Option Jvm.ClassFile.FieldType) "StaveHouse$Part") {rec4 : Int → Int → Int → zF → zB → zO} {rec79 : Int → Int → Int → Int → Int → Int → zF → zB → zO} (hrec4 : ∀ {l2 : Int} {l1 : Int} {l0 : Int} {F : zF} {B : zB} {H : Heap} {locs : List Loc} {ls : Array Slot}, rec4 l2 l1 l0 F B = some (r, F9, B9) → zH D ca ad lnC K.2 L F B A H → va_S A s.heap H locs → lv_has ls 7 [(2, .int (iI l2)), (1, .int (iI l1)), (0, .ref (ad 4 l0 0))] → W p l e ({ frames := 2, cells := 0, slots := 0, locals := 36 } : Room) s m args below meth c H locs 0 0 (MQ below (Q_Part_setStems K D ca ad L r F9 B9 A) args s 0 0 A) (F0 m 4 ls [])) (hrec79 : ∀ {l5 : Int} {l4 : Int} {l3 : Int} {l2 : Int} {l1 : Int} {l0 : Int} {F : zF} {B : zB} {H : Heap} {locs : List Loc} {ls : Array Slot}, rec79 l5 l4 l3 l2 l1 l0 F B = some (r, F9, B9) → zH D ca ad lnC K.2 L F B A H → va_S A s.heap H locs → lv_has ls 7 [(5, .int (iI l5)), (4, .int (iI l4)), (3, .int (iI l3)), (2, .int (iI l2)), (1, .int (iI l1)), (0, .ref (ad 4 l0 0))] → W p l e ({ frames := 2, cells := 0, slots := 0, locals := 36 } : Room) s m args below meth c H locs 0 0 (MQ below (Q_Part_setStems K D ca ad L r F9 B9 A) args s 0 0 A) (F0 m 79 ls [])) {l5 : Int} {l3 : Int} {l2 : Int} {l1 : Int} {l0 : Int} {s0 : Int} {s1 : Int} {F : zF} {B : zB} {H : Heap} {locs : List Loc} {ls : Array Slot} (hf : f_Part_setStems_118 rec4 rec79 K l5 l3 l2 l1 l0 s0 s1 F B = some (r, F9, B9)) (hZ : zH D ca ad lnC K.2 L F B A H) (hS : va_S A s.heap H locs) (hl : lv_has ls 7 [(5, .int (iI l5)), (3, .int (iI l3)), (2, .int (iI l2)), (1, .int (iI l1)), (0, .ref (ad 4 l0 0))]) : W p l e ({ frames := 2, cells := 0, slots := 0, locals := 36 } : Room) s m args below meth c H locs 0 0 (MQ below (Q_Part_setStems K D ca ad L r F9 B9 A) args s 0 0 A) (F0 m 118 ls [.int (iI s1), .int (iI s0)]) := by
  obtain ⟨hx, hb, hr, hml, hown, hts, hlk, hK, hA, hL, hX⟩ := id X
  replace hf : (rec79 (l5 + 1) (s0 + s1) l3 l2 l1 l0 F B) = some (r, F9, B9) := hf
  refine zadd hx hb d_6_25_118 ?_
  refine lv_istore (lv' := [(4, .int (iI (s0 + s1))), (5, .int (iI l5)), (3, .int (iI l3)), (2, .int (iI l2)), (1, .int (iI l1)), (0, .ref (ad 4 l0 0))]) hx hb d_6_25_119 hl (by decide) rfl (fun ls hl => ?_)
  refine lv_iinc (v := iI (l5 + 1)) (lv' := [(5, .int (iI (l5 + 1))), (4, .int (iI (s0 + s1))), (3, .int (iI l3)), (2, .int (iI l2)), (1, .int (iI l1)), (0, .ref (ad 4 l0 0))]) hx hb d_6_25_121 hl (k := 1) rfl (iI_add _ 1) (by decide) rfl (fun ls hl => ?_)
  refine lv_goto (tgt := 79) hx hb d_6_25_124 (by decide) ?_
  exact hrec79 hf hZ hS (lv_sub hl [0, 1, 2, 3, 4, 5] rfl)

def f_Part_setStems_79 (rec4 : Int → Int → Int → zF → zB → zO) (K : zK) : Nat → Int → Int → Int → Int → Int → Int → zF → zB → zO
  | 0, _, _, _, _, _, _, _, _ => none
  | n + 1, l5, l4, l3, l2, l1, l0, F, B => if r32 l5 then if r32 (l1 + l3) then (if (l1 + l3) ≤ l5 then f_Part_setStems_130 rec4 K K.1 l1 l4 l3 l2 l1 l0 F B else if 0 ≤ l0 ∧ l0 < K.2 4 then zbind (f_Part_isRestNote K l0 l5 F B) (fun r21 F21 B21 => if r32 r21 then (if r21 = 0 then zbind (f_Part_leastHeight K l0 l5 F21 B21) (fun r24 F24 B24 => zbind (f_Part_greatestHeight K l0 l5 F24 B24) (fun r25 F25 B25 => f_Part_setStems_118 rec4 (f_Part_setStems_79 rec4 K n) K l5 l3 l2 l1 l0 l4 ((r24 + r25) - 8) F25 B25)) else f_Part_setStems_118 rec4 (f_Part_setStems_79 rec4 K n) K l5 l3 l2 l1 l0 l4 0 F21 B21) else none) else none) else none else none
set_option maxHeartbeats 4000000 in
set_option maxRecDepth 100000 in
theorem b_Part_setStems_79 {D : va_G} {ca : Nat → ClassId} {ad : Nat → Int → Nat → Nat} {L : List Nat} {aS vS : Nat → Nat} {A : Nat → Prop} {p : Program} {l : Launch} {e : Env} {s : State} {m : MethodId} {args : Array Value} {below : List Frame} {meth : Method} {c : Code} {K : zK} {r : Int} {F9 : zF} {B9 : zB} (X : zX D ca L aS vS A p s m args meth c prog_6_method_25_code 7 (Option.none : Option Jvm.ClassFile.FieldType) "StaveHouse$Part") {rec4 : Int → Int → Int → zF → zB → zO} (hrec4 : ∀ {l2 : Int} {l1 : Int} {l0 : Int} {F : zF} {B : zB} {H : Heap} {locs : List Loc} {ls : Array Slot}, rec4 l2 l1 l0 F B = some (r, F9, B9) → zH D ca ad lnC K.2 L F B A H → va_S A s.heap H locs → lv_has ls 7 [(2, .int (iI l2)), (1, .int (iI l1)), (0, .ref (ad 4 l0 0))] → W p l e ({ frames := 2, cells := 0, slots := 0, locals := 36 } : Room) s m args below meth c H locs 0 0 (MQ below (Q_Part_setStems K D ca ad L r F9 B9 A) args s 0 0 A) (F0 m 4 ls [])) : ∀ {n : Nat} {l5 : Int} {l4 : Int} {l3 : Int} {l2 : Int} {l1 : Int} {l0 : Int} {F : zF} {B : zB} {H : Heap} {locs : List Loc} {ls : Array Slot}, f_Part_setStems_79 rec4 K n l5 l4 l3 l2 l1 l0 F B = some (r, F9, B9) → zH D ca ad lnC K.2 L F B A H → va_S A s.heap H locs → lv_has ls 7 [(5, .int (iI l5)), (4, .int (iI l4)), (3, .int (iI l3)), (2, .int (iI l2)), (1, .int (iI l1)), (0, .ref (ad 4 l0 0))] → W p l e ({ frames := 2, cells := 0, slots := 0, locals := 36 } : Room) s m args below meth c H locs 0 0 (MQ below (Q_Part_setStems K D ca ad L r F9 B9 A) args s 0 0 A) (F0 m 79 ls []) := by
  obtain ⟨hx, hb, hr, hml, hown, hts, hlk, hK, hA, hL, hX⟩ := id X
  intro n
  induction n with
  | zero =>
    intros
    rename_i hf _ _ _
    cases hf
  | succ n ih =>
    intro l5 l4 l3 l2 l1 l0 F B H locs ls hf hZ hS hl
    replace hf : (if r32 l5 then if r32 (l1 + l3) then (if (l1 + l3) ≤ l5 then f_Part_setStems_130 rec4 K K.1 l1 l4 l3 l2 l1 l0 F B else if 0 ≤ l0 ∧ l0 < K.2 4 then zbind (f_Part_isRestNote K l0 l5 F B) (fun r21 F21 B21 => if r32 r21 then (if r21 = 0 then zbind (f_Part_leastHeight K l0 l5 F21 B21) (fun r24 F24 B24 => zbind (f_Part_greatestHeight K l0 l5 F24 B24) (fun r25 F25 B25 => f_Part_setStems_118 rec4 (f_Part_setStems_79 rec4 K n) K l5 l3 l2 l1 l0 l4 ((r24 + r25) - 8) F25 B25)) else f_Part_setStems_118 rec4 (f_Part_setStems_79 rec4 K n) K l5 l3 l2 l1 l0 l4 0 F21 B21) else none) else none) else none else none) = some (r, F9, B9) := hf
    refine lv_iload hx hb d_6_25_79 (lv_at hl 0 rfl) ?_
    refine lv_iload_n hx hb d_6_25_81 rfl (lv_at hl 4 rfl) ?_
    refine lv_iload_n hx hb d_6_25_82 rfl (lv_at hl 2 rfl) ?_
    refine zadd hx hb d_6_25_83 ?_
    obtain ⟨g17, hf⟩ := gif hf
    obtain ⟨g18, hf⟩ := gif hf
    refine zge (tgt := 127) hx hb g17 g18 d_6_25_84 (by decide) (fun h19 => ?_) (fun h19 => ?_)
    · replace hf := gpos hf h19
      refine lv_iload_n hx hb d_6_25_127 rfl (lv_at hl 4 rfl) ?_
      refine lv_istore (lv' := [(5, .int (iI l1)), (4, .int (iI l4)), (3, .int (iI l3)), (2, .int (iI l2)), (1, .int (iI l1)), (0, .ref (ad 4 l0 0))]) hx hb d_6_25_128 hl (by decide) rfl (fun ls hl => ?_)
      exact b_Part_setStems_130 X hrec4 hf hZ hS (lv_sub hl [0, 1, 2, 3, 4, 5] rfl)
    · replace hf := gneg hf h19
      refine lv_iload hx hb d_6_25_87 (lv_at hl 1 rfl) ?_
      refine lv_aload_n hx hb d_6_25_89 rfl (lv_at hl 5 rfl) ?_
      refine lv_iload hx hb d_6_25_90 (lv_at hl 0 rfl) ?_
      obtain ⟨g20, hf⟩ := gif hf
      obtain ⟨r21, F21, B21, hc21, hf⟩ := gbind hf
      refine va_calli (va_runV (As := [.int (iI l5)]) (rest := [.int (iI l4)]) ⟨hx, hb, hml, hown, hts⟩ (c_Part_isRestNote (l := l) hc21) (cwV 1 hts (gdV k_5_104 k_5_106 ks_54 k_1_18 k_5_107) rfl rfl rfl (by decide +kernel) ⟨Nat.le_of_ble_eq_true rfl, Nat.le_of_ble_eq_true rfl⟩) (zPV X hZ hS (ci := 4) g20.1 g20.2 (r := (RX4, TX4, 13)) rfl [.int (iI l5)]) rfl rfl hl.1 rfl (lv_room (Nat.le_of_ble_eq_true rfl)) d_6_25_92 ⟨Nat.le_of_ble_eq_true rfl, Nat.le_of_ble_eq_true rfl⟩) hS (fun q _ h => zAin X hS q h) (zAin X hS) (fun p21 u21 t21 H21 locs21 ht21 hv21 hw21 hB21 hz21 hk21 hS21 => ?_)
      have hZ21 := zBack X ht21 hB21
      subst hw21
      obtain ⟨g22, hf⟩ := gif hf
      refine z0eq (tgt := 102) hx hb g22 d_6_25_95 (by decide) (fun h23 => ?_) (fun h23 => ?_)
      · replace hf := gpos hf h23
        refine lv_aload_n hx hb d_6_25_102 rfl (lv_at hl 5 rfl) ?_
        refine lv_iload hx hb d_6_25_103 (lv_at hl 0 rfl) ?_
        obtain ⟨r24, F24, B24, hc24, hf⟩ := gbind hf
        refine va_calli (va_runV (As := [.int (iI l5)]) (rest := [.int (iI l4)]) ⟨hx, hb, hml, hown, hts⟩ (c_Part_leastHeight (l := l) hc24) (cwV 1 hts (gdV k_5_140 k_5_142 ks_60 k_1_18 k_5_143) rfl rfl rfl (by decide +kernel) ⟨Nat.le_of_ble_eq_true rfl, Nat.le_of_ble_eq_true rfl⟩) (zPV X hZ21 hS21 (ci := 4) g20.1 g20.2 (r := (RX4, TX4, 13)) rfl [.int (iI l5)]) rfl rfl hl.1 rfl (lv_room (Nat.le_of_ble_eq_true rfl)) d_6_25_105 ⟨Nat.le_of_ble_eq_true rfl, Nat.le_of_ble_eq_true rfl⟩) hS21 (fun q _ h => zAin X hS21 q h) (zAin X hS21) (fun p24 u24 t24 H24 locs24 ht24 hv24 hw24 hB24 hz24 hk24 hS24 => ?_)
        have hZ24 := zBack X ht24 hB24
        subst hw24
        refine lv_aload_n hx hb d_6_25_108 rfl (lv_at hl 5 rfl) ?_
        refine lv_iload hx hb d_6_25_109 (lv_at hl 0 rfl) ?_
        obtain ⟨r25, F25, B25, hc25, hf⟩ := gbind hf
        refine va_calli (va_runV (As := [.int (iI l5)]) (rest := [.int (iI r24), .int (iI l4)]) ⟨hx, hb, hml, hown, hts⟩ (c_Part_greatestHeight (l := l) hc25) (cwV 1 hts (gdV k_5_134 k_5_136 ks_59 k_1_18 k_5_137) rfl rfl rfl (by decide +kernel) ⟨Nat.le_of_ble_eq_true rfl, Nat.le_of_ble_eq_true rfl⟩) (zPV X hZ24 hS24 (ci := 4) g20.1 g20.2 (r := (RX4, TX4, 13)) rfl [.int (iI l5)]) rfl rfl hl.1 rfl (lv_room (Nat.le_of_ble_eq_true rfl)) d_6_25_111 ⟨Nat.le_of_ble_eq_true rfl, Nat.le_of_ble_eq_true rfl⟩) hS24 (fun q _ h => zAin X hS24 q h) (zAin X hS24) (fun p25 u25 t25 H25 locs25 ht25 hv25 hw25 hB25 hz25 hk25 hS25 => ?_)
        have hZ25 := zBack X ht25 hB25
        subst hw25
        refine zadd hx hb d_6_25_114 ?_
        refine lv_bipush (v := iI 8) hx hb d_6_25_115 (by decide) ?_
        refine zsub hx hb d_6_25_117 ?_
        exact b_Part_setStems_118 X hrec4 ih hf hZ25 hS25 (lv_sub hl [0, 2, 3, 4, 5] rfl)
      · replace hf := gneg hf h23
        refine lv_iconst (v := iI 0) hx hb d_6_25_98 rfl ?_
        refine lv_goto (tgt := 118) hx hb d_6_25_99 (by decide) ?_
        exact b_Part_setStems_118 X hrec4 ih hf hZ21 hS21 (lv_sub hl [0, 2, 3, 4, 5] rfl)

def f_Part_setStems_73 (rec4 : Int → Int → Int → zF → zB → zO) (K : zK) (l3 : Int) (l2 : Int) (l1 : Int) (l0 : Int) (F : zF) (B : zB) : zO := f_Part_setStems_79 rec4 K K.1 l1 0 l3 l2 l1 l0 F B
set_option maxHeartbeats 4000000 in
set_option maxRecDepth 100000 in
theorem b_Part_setStems_73 {D : va_G} {ca : Nat → ClassId} {ad : Nat → Int → Nat → Nat} {L : List Nat} {aS vS : Nat → Nat} {A : Nat → Prop} {p : Program} {l : Launch} {e : Env} {s : State} {m : MethodId} {args : Array Value} {below : List Frame} {meth : Method} {c : Code} {K : zK} {r : Int} {F9 : zF} {B9 : zB} (X : zX D ca L aS vS A p s m args meth c prog_6_method_25_code 7 (Option.none : Option Jvm.ClassFile.FieldType) "StaveHouse$Part") {rec4 : Int → Int → Int → zF → zB → zO} (hrec4 : ∀ {l2 : Int} {l1 : Int} {l0 : Int} {F : zF} {B : zB} {H : Heap} {locs : List Loc} {ls : Array Slot}, rec4 l2 l1 l0 F B = some (r, F9, B9) → zH D ca ad lnC K.2 L F B A H → va_S A s.heap H locs → lv_has ls 7 [(2, .int (iI l2)), (1, .int (iI l1)), (0, .ref (ad 4 l0 0))] → W p l e ({ frames := 2, cells := 0, slots := 0, locals := 36 } : Room) s m args below meth c H locs 0 0 (MQ below (Q_Part_setStems K D ca ad L r F9 B9 A) args s 0 0 A) (F0 m 4 ls [])) {l3 : Int} {l2 : Int} {l1 : Int} {l0 : Int} {F : zF} {B : zB} {H : Heap} {locs : List Loc} {ls : Array Slot} (hf : f_Part_setStems_73 rec4 K l3 l2 l1 l0 F B = some (r, F9, B9)) (hZ : zH D ca ad lnC K.2 L F B A H) (hS : va_S A s.heap H locs) (hl : lv_has ls 7 [(3, .int (iI l3)), (2, .int (iI l2)), (1, .int (iI l1)), (0, .ref (ad 4 l0 0))]) : W p l e ({ frames := 2, cells := 0, slots := 0, locals := 36 } : Room) s m args below meth c H locs 0 0 (MQ below (Q_Part_setStems K D ca ad L r F9 B9 A) args s 0 0 A) (F0 m 73 ls []) := by
  obtain ⟨hx, hb, hr, hml, hown, hts, hlk, hK, hA, hL, hX⟩ := id X
  replace hf : (f_Part_setStems_79 rec4 K K.1 l1 0 l3 l2 l1 l0 F B) = some (r, F9, B9) := hf
  refine lv_iconst (v := iI 0) hx hb d_6_25_73 rfl ?_
  refine lv_istore (lv' := [(4, .int (iI 0)), (3, .int (iI l3)), (2, .int (iI l2)), (1, .int (iI l1)), (0, .ref (ad 4 l0 0))]) hx hb d_6_25_74 hl (by decide) rfl (fun ls hl => ?_)
  refine lv_iload_n hx hb d_6_25_76 rfl (lv_at hl 3 rfl) ?_
  refine lv_istore (lv' := [(5, .int (iI l1)), (4, .int (iI 0)), (3, .int (iI l3)), (2, .int (iI l2)), (1, .int (iI l1)), (0, .ref (ad 4 l0 0))]) hx hb d_6_25_77 hl (by decide) rfl (fun ls hl => ?_)
  exact b_Part_setStems_79 X hrec4 hf hZ hS (lv_sub hl [0, 1, 2, 3, 4, 5] rfl)

def f_Part_setStems_21 (rec4 : Int → Int → Int → zF → zB → zO) (K : zK) : Nat → Int → Int → Int → Int → zF → zB → zO
  | 0, _, _, _, _, _, _ => none
  | n + 1, l3, l2, l1, l0, F, B => if 0 ≤ l0 ∧ l0 < K.2 4 then if 0 ≤ l1 ∧ l1 < 800 then if r32 (B 4 l0 369 l1) then (if (B 4 l0 369 l1) = (-1) then f_Part_setStems_73 rec4 K l3 l2 l1 l0 F B else if r32 (l1 + l3) then if r32 (F 4 l0 10) then (if (F 4 l0 10) ≤ (l1 + l3) then f_Part_setStems_73 rec4 K l3 l2 l1 l0 F B else if 0 ≤ (l1 + l3) ∧ (l1 + l3) < 800 then if r32 (B 4 l0 369 (l1 + l3)) then (if (B 4 l0 369 (l1 + l3)) = (B 4 l0 369 l1) then f_Part_setStems_21 rec4 K n (l3 + 1) l2 l1 l0 F B else f_Part_setStems_73 rec4 K l3 l2 l1 l0 F B) else none else none) else none else none) else none else none else none
set_option maxHeartbeats 4000000 in
set_option maxRecDepth 100000 in
theorem b_Part_setStems_21 {D : va_G} {ca : Nat → ClassId} {ad : Nat → Int → Nat → Nat} {L : List Nat} {aS vS : Nat → Nat} {A : Nat → Prop} {p : Program} {l : Launch} {e : Env} {s : State} {m : MethodId} {args : Array Value} {below : List Frame} {meth : Method} {c : Code} {K : zK} {r : Int} {F9 : zF} {B9 : zB} (X : zX D ca L aS vS A p s m args meth c prog_6_method_25_code 7 (Option.none : Option Jvm.ClassFile.FieldType) "StaveHouse$Part") {rec4 : Int → Int → Int → zF → zB → zO} (hrec4 : ∀ {l2 : Int} {l1 : Int} {l0 : Int} {F : zF} {B : zB} {H : Heap} {locs : List Loc} {ls : Array Slot}, rec4 l2 l1 l0 F B = some (r, F9, B9) → zH D ca ad lnC K.2 L F B A H → va_S A s.heap H locs → lv_has ls 7 [(2, .int (iI l2)), (1, .int (iI l1)), (0, .ref (ad 4 l0 0))] → W p l e ({ frames := 2, cells := 0, slots := 0, locals := 36 } : Room) s m args below meth c H locs 0 0 (MQ below (Q_Part_setStems K D ca ad L r F9 B9 A) args s 0 0 A) (F0 m 4 ls [])) : ∀ {n : Nat} {l3 : Int} {l2 : Int} {l1 : Int} {l0 : Int} {F : zF} {B : zB} {H : Heap} {locs : List Loc} {ls : Array Slot}, f_Part_setStems_21 rec4 K n l3 l2 l1 l0 F B = some (r, F9, B9) → zH D ca ad lnC K.2 L F B A H → va_S A s.heap H locs → lv_has ls 7 [(3, .int (iI l3)), (2, .int (iI l2)), (1, .int (iI l1)), (0, .ref (ad 4 l0 0))] → W p l e ({ frames := 2, cells := 0, slots := 0, locals := 36 } : Room) s m args below meth c H locs 0 0 (MQ below (Q_Part_setStems K D ca ad L r F9 B9 A) args s 0 0 A) (F0 m 21 ls []) := by
  obtain ⟨hx, hb, hr, hml, hown, hts, hlk, hK, hA, hL, hX⟩ := id X
  intro n
  induction n with
  | zero =>
    intros
    rename_i hf _ _ _
    cases hf
  | succ n ih =>
    intro l3 l2 l1 l0 F B H locs ls hf hZ hS hl
    replace hf : (if 0 ≤ l0 ∧ l0 < K.2 4 then if 0 ≤ l1 ∧ l1 < 800 then if r32 (B 4 l0 369 l1) then (if (B 4 l0 369 l1) = (-1) then f_Part_setStems_73 rec4 K l3 l2 l1 l0 F B else if r32 (l1 + l3) then if r32 (F 4 l0 10) then (if (F 4 l0 10) ≤ (l1 + l3) then f_Part_setStems_73 rec4 K l3 l2 l1 l0 F B else if 0 ≤ (l1 + l3) ∧ (l1 + l3) < 800 then if r32 (B 4 l0 369 (l1 + l3)) then (if (B 4 l0 369 (l1 + l3)) = (B 4 l0 369 l1) then f_Part_setStems_21 rec4 K n (l3 + 1) l2 l1 l0 F B else f_Part_setStems_73 rec4 K l3 l2 l1 l0 F B) else none else none) else none else none) else none else none else none) = some (r, F9, B9) := hf
    refine lv_aload_n hx hb d_6_25_21 rfl (lv_at hl 3 rfl) ?_
    obtain ⟨g7, hf⟩ := gif hf
    refine zget (ci := 4) (C := RX4) (T := TX4) (v := .ref (ad 4 l0 (8 + 1))) (k := 8) hx hb hts inW_4 hown hK hZ g7.1 g7.2 rfl (by decide) k_4_142 rfl d_6_25_22 ?_
    refine lv_bipush (v := iI 9) hx hb d_6_25_25 (by decide) ?_
    refine zaldQ (t := 0) (ci := 4) (k := 8) hx hb hK rfl hZ g7.1 g7.2 rfl (Nat.le_of_ble_eq_true rfl) (by decide) (by decide) d_6_25_27 ?_
    refine W.eq (g2 := F0 m 28 ls [.ref (ad 4 l0 (369 + 1))]) rfl ?_
    refine lv_iload_n hx hb d_6_25_28 rfl (lv_at hl 2 rfl) ?_
    obtain ⟨g8, hf⟩ := gif hf
    refine zald (ci := 4) (k := 369) hx hb hK rfl hZ g7.1 g7.2 rfl (Nat.le_of_ble_eq_true rfl) g8.1 g8.2 d_6_25_29 ?_
    refine lv_iconst (v := iI (-1)) hx hb d_6_25_30 rfl ?_
    obtain ⟨g9, hf⟩ := gif hf
    refine zeq (tgt := 73) hx hb g9 (by decide) d_6_25_31 (by decide) (fun h10 => ?_) (fun h10 => ?_)
    · replace hf := gpos hf h10
      exact b_Part_setStems_73 X hrec4 hf hZ hS (lv_sub hl [0, 1, 2, 3] rfl)
    · replace hf := gneg hf h10
      refine lv_iload_n hx hb d_6_25_34 rfl (lv_at hl 2 rfl) ?_
      refine lv_iload_n hx hb d_6_25_35 rfl (lv_at hl 0 rfl) ?_
      refine zadd hx hb d_6_25_36 ?_
      refine lv_aload_n hx hb d_6_25_37 rfl (lv_at hl 3 rfl) ?_
      refine zget (ci := 4) (C := RX4) (T := TX4) (v := .int (iI (F 4 l0 10))) (k := 10) hx hb hts inW_4 hown hK hZ g7.1 g7.2 rfl (by decide) k_4_148 rfl d_6_25_38 ?_
      obtain ⟨g11, hf⟩ := gif hf
      obtain ⟨g12, hf⟩ := gif hf
      refine zge (tgt := 73) hx hb g11 g12 d_6_25_41 (by decide) (fun h13 => ?_) (fun h13 => ?_)
      · replace hf := gpos hf h13
        exact b_Part_setStems_73 X hrec4 hf hZ hS (lv_sub hl [0, 1, 2, 3] rfl)
      · replace hf := gneg hf h13
        refine lv_aload_n hx hb d_6_25_44 rfl (lv_at hl 3 rfl) ?_
        refine zget (ci := 4) (C := RX4) (T := TX4) (v := .ref (ad 4 l0 (8 + 1))) (k := 8) hx hb hts inW_4 hown hK hZ g7.1 g7.2 rfl (by decide) k_4_142 rfl d_6_25_45 ?_
        refine lv_bipush (v := iI 9) hx hb d_6_25_48 (by decide) ?_
        refine zaldQ (t := 0) (ci := 4) (k := 8) hx hb hK rfl hZ g7.1 g7.2 rfl (Nat.le_of_ble_eq_true rfl) (by decide) (by decide) d_6_25_50 ?_
        refine W.eq (g2 := F0 m 51 ls [.ref (ad 4 l0 (369 + 1))]) rfl ?_
        refine lv_iload_n hx hb d_6_25_51 rfl (lv_at hl 2 rfl) ?_
        refine lv_iload_n hx hb d_6_25_52 rfl (lv_at hl 0 rfl) ?_
        refine zadd hx hb d_6_25_53 ?_
        obtain ⟨g14, hf⟩ := gif hf
        refine zald (ci := 4) (k := 369) hx hb hK rfl hZ g7.1 g7.2 rfl (Nat.le_of_ble_eq_true rfl) g14.1 g14.2 d_6_25_54 ?_
        refine lv_aload_n hx hb d_6_25_55 rfl (lv_at hl 3 rfl) ?_
        refine zget (ci := 4) (C := RX4) (T := TX4) (v := .ref (ad 4 l0 (8 + 1))) (k := 8) hx hb hts inW_4 hown hK hZ g7.1 g7.2 rfl (by decide) k_4_142 rfl d_6_25_56 ?_
        refine lv_bipush (v := iI 9) hx hb d_6_25_59 (by decide) ?_
        refine zaldQ (t := 0) (ci := 4) (k := 8) hx hb hK rfl hZ g7.1 g7.2 rfl (Nat.le_of_ble_eq_true rfl) (by decide) (by decide) d_6_25_61 ?_
        refine W.eq (g2 := F0 m 62 ls [.ref (ad 4 l0 (369 + 1)), .int (iI (B 4 l0 369 (l1 + l3)))]) rfl ?_
        refine lv_iload_n hx hb d_6_25_62 rfl (lv_at hl 2 rfl) ?_
        refine zald (ci := 4) (k := 369) hx hb hK rfl hZ g7.1 g7.2 rfl (Nat.le_of_ble_eq_true rfl) g8.1 g8.2 d_6_25_63 ?_
        obtain ⟨g15, hf⟩ := gif hf
        refine zne (tgt := 73) hx hb g15 g9 d_6_25_64 (by decide) (fun h16 => ?_) (fun h16 => ?_)
        · replace hf := gneg hf h16
          exact b_Part_setStems_73 X hrec4 hf hZ hS (lv_sub hl [0, 1, 2, 3] rfl)
        · replace hf := gpos hf h16
          refine lv_iinc (v := iI (l3 + 1)) (lv' := [(3, .int (iI (l3 + 1))), (2, .int (iI l2)), (1, .int (iI l1)), (0, .ref (ad 4 l0 0))]) hx hb d_6_25_67 hl (k := 0) rfl (iI_add _ 1) (by decide) rfl (fun ls hl => ?_)
          refine lv_goto (tgt := 21) hx hb d_6_25_70 (by decide) ?_
          exact ih hf hZ hS (lv_sub hl [0, 1, 2, 3] rfl)

def f_Part_setStems_4 (K : zK) : Nat → Int → Int → Int → zF → zB → zO
  | 0, _, _, _, _, _ => none
  | n + 1, l2, l1, l0, F, B => if r32 l2 then (if 800 ≤ l2 then f_Part_setStems_211 K F B else if 0 ≤ l0 ∧ l0 < K.2 4 then if r32 l1 then if r32 (F 4 l0 10) then (if (F 4 l0 10) ≤ l1 then f_Part_setStems_211 K F B else f_Part_setStems_21 (f_Part_setStems_4 K n) K K.1 1 l2 l1 l0 F B) else none else none else none) else none
set_option maxHeartbeats 4000000 in
set_option maxRecDepth 100000 in
theorem b_Part_setStems_4 {D : va_G} {ca : Nat → ClassId} {ad : Nat → Int → Nat → Nat} {L : List Nat} {aS vS : Nat → Nat} {A : Nat → Prop} {p : Program} {l : Launch} {e : Env} {s : State} {m : MethodId} {args : Array Value} {below : List Frame} {meth : Method} {c : Code} {K : zK} {r : Int} {F9 : zF} {B9 : zB} (X : zX D ca L aS vS A p s m args meth c prog_6_method_25_code 7 (Option.none : Option Jvm.ClassFile.FieldType) "StaveHouse$Part") : ∀ {n : Nat} {l2 : Int} {l1 : Int} {l0 : Int} {F : zF} {B : zB} {H : Heap} {locs : List Loc} {ls : Array Slot}, f_Part_setStems_4 K n l2 l1 l0 F B = some (r, F9, B9) → zH D ca ad lnC K.2 L F B A H → va_S A s.heap H locs → lv_has ls 7 [(2, .int (iI l2)), (1, .int (iI l1)), (0, .ref (ad 4 l0 0))] → W p l e ({ frames := 2, cells := 0, slots := 0, locals := 36 } : Room) s m args below meth c H locs 0 0 (MQ below (Q_Part_setStems K D ca ad L r F9 B9 A) args s 0 0 A) (F0 m 4 ls []) := by
  obtain ⟨hx, hb, hr, hml, hown, hts, hlk, hK, hA, hL, hX⟩ := id X
  intro n
  induction n with
  | zero =>
    intros
    rename_i hf _ _ _
    cases hf
  | succ n ih =>
    intro l2 l1 l0 F B H locs ls hf hZ hS hl
    replace hf : (if r32 l2 then (if 800 ≤ l2 then f_Part_setStems_211 K F B else if 0 ≤ l0 ∧ l0 < K.2 4 then if r32 l1 then if r32 (F 4 l0 10) then (if (F 4 l0 10) ≤ l1 then f_Part_setStems_211 K F B else f_Part_setStems_21 (f_Part_setStems_4 K n) K K.1 1 l2 l1 l0 F B) else none else none else none) else none) = some (r, F9, B9) := hf
    refine lv_iload_n hx hb d_6_25_4 rfl (lv_at hl 0 rfl) ?_
    refine lv_sipush (v := iI 800) hx hb d_6_25_5 (by decide) ?_
    obtain ⟨g1, hf⟩ := gif hf
    refine zge (tgt := 211) hx hb g1 (by decide) d_6_25_8 (by decide) (fun h2 => ?_) (fun h2 => ?_)
    · replace hf := gpos hf h2
      exact b_Part_setStems_211 X hf hZ hS (lv_sub hl [] rfl)
    · replace hf := gneg hf h2
      refine lv_iload_n hx hb d_6_25_11 rfl (lv_at hl 1 rfl) ?_
      refine lv_aload_n hx hb d_6_25_12 rfl (lv_at hl 2 rfl) ?_
      obtain ⟨g3, hf⟩ := gif hf
      refine zget (ci := 4) (C := RX4) (T := TX4) (v := .int (iI (F 4 l0 10))) (k := 10) hx hb hts inW_4 hown hK hZ g3.1 g3.2 rfl (by decide) k_4_148 rfl d_6_25_13 ?_
      obtain ⟨g4, hf⟩ := gif hf
      obtain ⟨g5, hf⟩ := gif hf
      refine zge (tgt := 211) hx hb g4 g5 d_6_25_16 (by decide) (fun h6 => ?_) (fun h6 => ?_)
      · replace hf := gpos hf h6
        exact b_Part_setStems_211 X hf hZ hS (lv_sub hl [] rfl)
      · replace hf := gneg hf h6
        refine lv_iconst (v := iI 1) hx hb d_6_25_19 rfl ?_
        refine lv_istore_n (lv' := [(3, .int (iI 1)), (2, .int (iI l2)), (1, .int (iI l1)), (0, .ref (ad 4 l0 0))]) hx hb d_6_25_20 rfl hl (by decide) rfl (fun ls hl => ?_)
        exact b_Part_setStems_21 X ih hf hZ hS (lv_sub hl [0, 1, 2, 3] rfl)

def f_Part_setStems (K : zK) (l0 : Int) (F : zF) (B : zB) : zO := f_Part_setStems_4 K K.1 0 0 l0 F B
set_option maxHeartbeats 4000000 in
set_option maxRecDepth 100000 in
theorem c_Part_setStems {l : Launch} {D : va_G} {ca : Nat → ClassId} {ad : Nat → Int → Nat → Nat} {L : List Nat} {aS vS : Nat → Nat} {sz : Nat} {K : zK}  {l0 : Int} {F F9 : zF} {B B9 : zB} {r : Int} (hf : f_Part_setStems K l0 F B = some (r, F9, B9)) : Met l ({ cls := "StaveHouse$Part", name := "setStems", desc := "()V" } : Jvm.MethodName) (Cond.code ({ cls := "StaveHouse$Part", name := "setStems", desc := "()V" } : Jvm.MethodName) prog_6_method_25_code 7 (Option.none : Option Jvm.ClassFile.FieldType) :: wAll) ({ frames := 2, cells := 0, slots := 0, locals := 36 } : Room) (va_Pc [.ref (ad 4 l0 0)] (zPre D ca ad lnC K.2 L aS vS F B sz)) (Q_Part_setStems K D ca ad L r F9 B9 (zA L sz)) 0 0 (zA L sz) := by
  refine zMet (Qc := Q_Part_setStems K D ca ad L r F9 B9) (lv := [(0, .ref (ad 4 l0 0))]) (by decide) (Nat.le_of_ble_eq_true rfl) rfl (fun A p e s m below meth c ls X hZ hS hl => ?_)
  obtain ⟨hx, hb, hr, hml, hown, hts, hlk, hK, hA, hL, hX⟩ := id X
  replace hf : (f_Part_setStems_4 K K.1 0 0 l0 F B) = some (r, F9, B9) := hf
  refine lv_iconst (v := iI 0) hx hb d_6_25_0 rfl ?_
  refine lv_istore_n (lv' := [(1, .int (iI 0)), (0, .ref (ad 4 l0 0))]) hx hb d_6_25_1 rfl hl (by decide) rfl (fun ls hl => ?_)
  refine lv_iconst (v := iI 0) hx hb d_6_25_2 rfl ?_
  refine lv_istore_n (lv' := [(2, .int (iI 0)), (1, .int (iI 0)), (0, .ref (ad 4 l0 0))]) hx hb d_6_25_3 rfl hl (by decide) rfl (fun ls hl => ?_)
  exact b_Part_setStems_4 X hf hZ hS (lv_sub hl [0, 1, 2] rfl)

