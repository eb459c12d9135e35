theorem k_2_185 : (Jvm.Cond.fieldLink "StaveHouse$Piece" (11 : Nat) "StaveHouse$Piece" "parts" "[LStaveHouse$Part;") ∈ wAll := wA_2 (j := 185) rfl rfl
theorem k_4_115 : (Jvm.Cond.fieldLink "StaveHouse$Piece" (68 : Nat) "StaveHouse$Part" "word" "J") ∈ wAll := wA_4 (j := 115) rfl rfl
theorem k_4_135 : (Jvm.Cond.fieldLink "StaveHouse$Part" (31 : Nat) "StaveHouse$Part" "eventCount" "I") ∈ wAll := wA_4 (j := 135) rfl rfl
theorem k_4_148 : (Jvm.Cond.fieldLink "StaveHouse$Part" (35 : Nat) "StaveHouse$Part" "noteCount" "I") ∈ wAll := wA_4 (j := 148) rfl rfl
theorem k_4_140 : (Jvm.Cond.fieldLink "StaveHouse$Part" (38 : Nat) "StaveHouse$Part" "endPlace" "J") ∈ wAll := wA_4 (j := 140) rfl rfl
theorem k_1_192 : (Jvm.Cond.fieldLink "StaveHouse$Walker" (32 : Nat) "StaveHouse$Walker" "wrong" "I") ∈ wAll := wA_1 (j := 192) rfl rfl
theorem k_4_193 : (Jvm.Cond.constantLong "StaveHouse$Piece" (72 : Nat) (812851200 : Int64)) ∈ wAll := wA_4 (j := 193) rfl rfl
theorem k_4_194 : (Jvm.Cond.methodLink "StaveHouse$Piece" (74 : Nat) ({ cls := "java/lang/Math", name := "max", desc := "(II)I" } : Jvm.MethodName)) ∈ wAll := wA_4 (j := 194) rfl rfl
theorem k_1_39 : (Jvm.Cond.static ({ cls := "java/lang/Math", name := "max", desc := "(II)I" } : Jvm.MethodName)) ∈ wAll := wA_1 (j := 39) rfl rfl
theorem k_1_40 : (Jvm.Cond.code ({ cls := "java/lang/Math", name := "max", desc := "(II)I" } : Jvm.MethodName) prog_20_method_65_code (2 : Nat) (Option.some Jvm.ClassFile.FieldType.int)) ∈ wAll := wA_1 (j := 40) rfl rfl
theorem k_4_220 : (Jvm.Cond.fieldLink "StaveHouse$Walker" (145 : Nat) "StaveHouse$Walker" "PRIMES" "[I") ∈ wAll := wA_4 (j := 220) rfl rfl
theorem k_1_204 : (Jvm.Cond.fieldLink "StaveHouse$Walker" (9 : Nat) "StaveHouse$Walker" "powers" "[I") ∈ wAll := wA_1 (j := 204) rfl rfl
theorem k_2_48 : (Jvm.Cond.fieldLink "StaveHouse$Event" (18 : Nat) "StaveHouse$Event" "count" "I") ∈ wAll := wA_2 (j := 48) rfl rfl
theorem k_2_57 : (Jvm.Cond.fieldLink "StaveHouse$Event" (9 : Nat) "StaveHouse$Event" "steps" "[I") ∈ wAll := wA_2 (j := 57) rfl rfl
theorem k_2_63 : (Jvm.Cond.fieldLink "StaveHouse$Event" (15 : Nat) "StaveHouse$Event" "alterations" "[I") ∈ wAll := wA_2 (j := 63) rfl rfl
theorem k_4_130 : (Jvm.Cond.fieldLink "StaveHouse$Part" (11 : Nat) "StaveHouse$Part" "events" "[LStaveHouse$Event;") ∈ wAll := wA_4 (j := 130) rfl rfl
theorem k_2_38 : (Jvm.Cond.fieldLink "StaveHouse$Event" (22 : Nat) "StaveHouse$Event" "marks" "I") ∈ wAll := wA_2 (j := 38) rfl rfl
theorem k_2_21 : (Jvm.Cond.fieldLink "StaveHouse$Part" (84 : Nat) "StaveHouse$Event" "place" "J") ∈ wAll := wA_2 (j := 21) rfl rfl
theorem k_2_24 : (Jvm.Cond.fieldLink "StaveHouse$Part" (87 : Nat) "StaveHouse$Event" "length" "J") ∈ wAll := wA_2 (j := 24) rfl rfl
theorem k_2_34 : (Jvm.Cond.fieldLink "StaveHouse$Part" (90 : Nat) "StaveHouse$Event" "bracket" "I") ∈ wAll := wA_2 (j := 34) rfl rfl
theorem k_5_36 : (Jvm.Cond.constantLong "StaveHouse$Part" (93 : Nat) (6350400 : Int64)) ∈ wAll := wA_5 (j := 36) rfl rfl
theorem k_5_15 : (Jvm.Cond.methodLink "StaveHouse$Part" (45 : Nat) ({ cls := "StaveHouse$Event", name := "has", desc := "(I)Z" } : Jvm.MethodName)) ∈ wAll := wA_5 (j := 15) rfl rfl
theorem k_5_16 : (Jvm.Cond.instanceMethod ({ cls := "StaveHouse$Event", name := "has", desc := "(I)Z" } : Jvm.MethodName)) ∈ wAll := wA_5 (j := 16) rfl rfl
theorem k_5_17 : (Jvm.Cond.selects "StaveHouse$Event" ({ cls := "StaveHouse$Event", name := "has", desc := "(I)Z" } : Jvm.MethodName) ({ cls := "StaveHouse$Event", name := "has", desc := "(I)Z" } : Jvm.MethodName)) ∈ wAll := wA_5 (j := 17) rfl rfl
theorem k_1_8 : (Jvm.Cond.initialized "StaveHouse$Event") ∈ wAll := wA_1 (j := 8) rfl rfl
theorem k_5_18 : (Jvm.Cond.code ({ cls := "StaveHouse$Event", name := "has", desc := "(I)Z" } : Jvm.MethodName) prog_3_method_3_code (2 : Nat) (Option.some Jvm.ClassFile.FieldType.boolean)) ∈ wAll := wA_5 (j := 18) rfl rfl
theorem k_4_151 : (Jvm.Cond.fieldLink "StaveHouse$Part" (81 : Nat) "StaveHouse$Part" "tooManyNotes" "Z") ∈ wAll := wA_4 (j := 151) rfl rfl
theorem k_5_70 : (Jvm.Cond.fieldLink "StaveHouse" (355 : Nat) "StaveHouse" "POINT_QUARTERS" "[I") ∈ wAll := wA_5 (j := 70) rfl rfl
theorem k_4_142 : (Jvm.Cond.fieldLink "StaveHouse$Part" (19 : Nat) "StaveHouse$Part" "notes" "[[I") ∈ wAll := wA_4 (j := 142) rfl rfl
theorem k_4_145 : (Jvm.Cond.fieldLink "StaveHouse$Part" (22 : Nat) "StaveHouse$Part" "notePlaces" "[J") ∈ wAll := wA_4 (j := 145) rfl rfl
theorem k_2_54 : (Jvm.Cond.fieldLink "StaveHouse$Part" (188 : Nat) "StaveHouse$Event" "count" "I") ∈ wAll := wA_2 (j := 54) rfl rfl
theorem k_5_119 : (Jvm.Cond.fieldLink "StaveHouse" (352 : Nat) "StaveHouse" "SHARP_RANKS" "[I") ∈ wAll := wA_5 (j := 119) rfl rfl
theorem k_4_70 : (Jvm.Cond.methodLink "StaveHouse" (349 : Nat) ({ cls := "java/lang/Math", name := "floorMod", desc := "(II)I" } : Jvm.MethodName)) ∈ wAll := wA_4 (j := 70) rfl rfl
theorem k_4_71 : (Jvm.Cond.static ({ cls := "java/lang/Math", name := "floorMod", desc := "(II)I" } : Jvm.MethodName)) ∈ wAll := wA_4 (j := 71) rfl rfl
theorem k_4_72 : (Jvm.Cond.code ({ cls := "java/lang/Math", name := "floorMod", desc := "(II)I" } : Jvm.MethodName) prog_20_method_50_code (3 : Nat) (Option.some Jvm.ClassFile.FieldType.int)) ∈ wAll := wA_4 (j := 72) rfl rfl
theorem k_2_60 : (Jvm.Cond.fieldLink "StaveHouse$Part" (99 : Nat) "StaveHouse$Event" "steps" "[I") ∈ wAll := wA_2 (j := 60) rfl rfl
theorem k_2_65 : (Jvm.Cond.fieldLink "StaveHouse$Part" (102 : Nat) "StaveHouse$Event" "alterations" "[I") ∈ wAll := wA_2 (j := 65) rfl rfl
theorem k_5_129 : (Jvm.Cond.methodLink "StaveHouse$Part" (105 : Nat) ({ cls := "StaveHouse$Event", name := "hasPitch", desc := "(II)Z" } : Jvm.MethodName)) ∈ wAll := wA_5 (j := 129) rfl rfl
theorem k_5_46 : (Jvm.Cond.instanceMethod ({ cls := "StaveHouse$Event", name := "hasPitch", desc := "(II)Z" } : Jvm.MethodName)) ∈ wAll := wA_5 (j := 46) rfl rfl
theorem k_5_47 : (Jvm.Cond.selects "StaveHouse$Event" ({ cls := "StaveHouse$Event", name := "hasPitch", desc := "(II)Z" } : Jvm.MethodName) ({ cls := "StaveHouse$Event", name := "hasPitch", desc := "(II)Z" } : Jvm.MethodName)) ∈ wAll := wA_5 (j := 47) rfl rfl
theorem k_5_48 : (Jvm.Cond.code ({ cls := "StaveHouse$Event", name := "hasPitch", desc := "(II)Z" } : Jvm.MethodName) prog_3_method_6_code (4 : Nat) (Option.some Jvm.ClassFile.FieldType.boolean)) ∈ wAll := wA_5 (j := 48) rfl rfl
theorem k_5_104 : (Jvm.Cond.methodLink "StaveHouse$Part" (191 : Nat) ({ cls := "StaveHouse$Part", name := "isRestNote", desc := "(I)Z" } : Jvm.MethodName)) ∈ wAll := wA_5 (j := 104) rfl rfl
theorem k_5_106 : (Jvm.Cond.instanceMethod ({ cls := "StaveHouse$Part", name := "isRestNote", desc := "(I)Z" } : Jvm.MethodName)) ∈ wAll := wA_5 (j := 106) rfl rfl
theorem ks_54 : (Jvm.Cond.selects "StaveHouse$Part" ({ cls := "StaveHouse$Part", name := "isRestNote", desc := "(I)Z" } : Jvm.MethodName) ({ cls := "StaveHouse$Part", name := "isRestNote", desc := "(I)Z" } : Jvm.MethodName)) ∈ wAll := wA_s (j := 54) rfl rfl
theorem k_1_18 : (Jvm.Cond.initialized "StaveHouse$Part") ∈ wAll := wA_1 (j := 18) rfl rfl
theorem k_5_107 : (Jvm.Cond.code ({ cls := "StaveHouse$Part", name := "isRestNote", desc := "(I)Z" } : Jvm.MethodName) prog_6_method_14_code (3 : Nat) (Option.some Jvm.ClassFile.FieldType.boolean)) ∈ wAll := wA_5 (j := 107) rfl rfl
theorem k_5_77 : (Jvm.Cond.methodLink "StaveHouse$Part" (181 : Nat) ({ cls := "java/lang/Math", name := "max", desc := "(II)I" } : Jvm.MethodName)) ∈ wAll := wA_5 (j := 77) rfl rfl
theorem k_5_138 : (Jvm.Cond.fieldLink "StaveHouse$Part" (206 : Nat) "StaveHouse$Part" "LOWEST_LINES" "[I") ∈ wAll := wA_5 (j := 138) rfl rfl
theorem k_4_121 : (Jvm.Cond.fieldLink "StaveHouse$Part" (209 : Nat) "StaveHouse$Part" "clef" "I") ∈ wAll := wA_4 (j := 121) rfl rfl
theorem k_5_92 : (Jvm.Cond.code ({ cls := "StaveHouse", name := "beatCount", desc := "(II)I" } : Jvm.MethodName) prog_1_method_39_code (2 : Nat) (Option.some Jvm.ClassFile.FieldType.int)) ∈ wAll := wA_5 (j := 92) rfl rfl
theorem k_1_1 : (Jvm.Cond.initialized "StaveHouse") ∈ wAll := wA_1 (j := 1) rfl rfl
theorem k_5_91 : (Jvm.Cond.static ({ cls := "StaveHouse", name := "beatCount", desc := "(II)I" } : Jvm.MethodName)) ∈ wAll := wA_5 (j := 91) rfl rfl
theorem k_5_153 : (Jvm.Cond.methodLink "StaveHouse$Part" (218 : Nat) ({ cls := "StaveHouse$Part", name := "isBeamed", desc := "(I)Z" } : Jvm.MethodName)) ∈ wAll := wA_5 (j := 153) rfl rfl
theorem k_5_155 : (Jvm.Cond.instanceMethod ({ cls := "StaveHouse$Part", name := "isBeamed", desc := "(I)Z" } : Jvm.MethodName)) ∈ wAll := wA_5 (j := 155) rfl rfl
theorem ks_62 : (Jvm.Cond.selects "StaveHouse$Part" ({ cls := "StaveHouse$Part", name := "isBeamed", desc := "(I)Z" } : Jvm.MethodName) ({ cls := "StaveHouse$Part", name := "isBeamed", desc := "(I)Z" } : Jvm.MethodName)) ∈ wAll := wA_s (j := 62) rfl rfl
theorem k_5_156 : (Jvm.Cond.code ({ cls := "StaveHouse$Part", name := "isBeamed", desc := "(I)Z" } : Jvm.MethodName) prog_6_method_22_code (2 : Nat) (Option.some Jvm.ClassFile.FieldType.boolean)) ∈ wAll := wA_5 (j := 156) rfl rfl
theorem k_5_140 : (Jvm.Cond.methodLink "StaveHouse$Part" (215 : Nat) ({ cls := "StaveHouse$Part", name := "leastHeight", desc := "(I)I" } : Jvm.MethodName)) ∈ wAll := wA_5 (j := 140) rfl rfl
theorem k_5_142 : (Jvm.Cond.instanceMethod ({ cls := "StaveHouse$Part", name := "leastHeight", desc := "(I)I" } : Jvm.MethodName)) ∈ wAll := wA_5 (j := 142) rfl rfl
theorem ks_60 : (Jvm.Cond.selects "StaveHouse$Part" ({ cls := "StaveHouse$Part", name := "leastHeight", desc := "(I)I" } : Jvm.MethodName) ({ cls := "StaveHouse$Part", name := "leastHeight", desc := "(I)I" } : Jvm.MethodName)) ∈ wAll := wA_s (j := 60) rfl rfl
theorem k_5_143 : (Jvm.Cond.code ({ cls := "StaveHouse$Part", name := "leastHeight", desc := "(I)I" } : Jvm.MethodName) prog_6_method_19_code (2 : Nat) (Option.some Jvm.ClassFile.FieldType.int)) ∈ wAll := wA_5 (j := 143) rfl rfl
theorem k_5_134 : (Jvm.Cond.methodLink "StaveHouse$Part" (212 : Nat) ({ cls := "StaveHouse$Part", name := "greatestHeight", desc := "(I)I" } : Jvm.MethodName)) ∈ wAll := wA_5 (j := 134) rfl rfl
theorem k_5_136 : (Jvm.Cond.instanceMethod ({ cls := "StaveHouse$Part", name := "greatestHeight", desc := "(I)I" } : Jvm.MethodName)) ∈ wAll := wA_5 (j := 136) rfl rfl
theorem ks_59 : (Jvm.Cond.selects "StaveHouse$Part" ({ cls := "StaveHouse$Part", name := "greatestHeight", desc := "(I)I" } : Jvm.MethodName) ({ cls := "StaveHouse$Part", name := "greatestHeight", desc := "(I)I" } : Jvm.MethodName)) ∈ wAll := wA_s (j := 59) rfl rfl
theorem k_5_137 : (Jvm.Cond.code ({ cls := "StaveHouse$Part", name := "greatestHeight", desc := "(I)I" } : Jvm.MethodName) prog_6_method_20_code (3 : Nat) (Option.some Jvm.ClassFile.FieldType.int)) ∈ wAll := wA_5 (j := 137) rfl rfl
theorem k_2_69 : (Jvm.Cond.lays "StaveHouse$Event" "StaveHouse$Event" "place" "J") ∈ wAll := wA_2 (j := 69) rfl rfl
theorem k_2_71 : (Jvm.Cond.lays "StaveHouse$Event" "StaveHouse$Event" "length" "J") ∈ wAll := wA_2 (j := 71) rfl rfl
theorem k_2_73 : (Jvm.Cond.lays "StaveHouse$Event" "StaveHouse$Event" "value" "I") ∈ wAll := wA_2 (j := 73) rfl rfl
theorem k_2_75 : (Jvm.Cond.lays "StaveHouse$Event" "StaveHouse$Event" "tupletFirst" "I") ∈ wAll := wA_2 (j := 75) rfl rfl
theorem k_2_77 : (Jvm.Cond.lays "StaveHouse$Event" "StaveHouse$Event" "tupletSecond" "I") ∈ wAll := wA_2 (j := 77) rfl rfl
theorem k_2_79 : (Jvm.Cond.lays "StaveHouse$Event" "StaveHouse$Event" "bracket" "I") ∈ wAll := wA_2 (j := 79) rfl rfl
theorem k_2_81 : (Jvm.Cond.lays "StaveHouse$Event" "StaveHouse$Event" "bracketPlace" "I") ∈ wAll := wA_2 (j := 81) rfl rfl
theorem k_2_83 : (Jvm.Cond.lays "StaveHouse$Event" "StaveHouse$Event" "marks" "I") ∈ wAll := wA_2 (j := 83) rfl rfl
theorem k_2_85 : (Jvm.Cond.lays "StaveHouse$Event" "StaveHouse$Event" "loud" "I") ∈ wAll := wA_2 (j := 85) rfl rfl
theorem k_2_87 : (Jvm.Cond.lays "StaveHouse$Event" "StaveHouse$Event" "token" "I") ∈ wAll := wA_2 (j := 87) rfl rfl
theorem k_2_89 : (Jvm.Cond.lays "StaveHouse$Event" "StaveHouse$Event" "count" "I") ∈ wAll := wA_2 (j := 89) rfl rfl
theorem k_2_91 : (Jvm.Cond.lays "StaveHouse$Event" "StaveHouse$Event" "slurred" "Z") ∈ wAll := wA_2 (j := 91) rfl rfl
theorem k_2_93 : (Jvm.Cond.laysFinal "StaveHouse$Event" "StaveHouse$Event" "steps" "[I") ∈ wAll := wA_2 (j := 93) rfl rfl
theorem k_2_95 : (Jvm.Cond.laysFinal "StaveHouse$Event" "StaveHouse$Event" "alterations" "[I") ∈ wAll := wA_2 (j := 95) rfl rfl
theorem k_4_153 : (Jvm.Cond.lays "StaveHouse$Part" "StaveHouse$Part" "word" "J") ∈ wAll := wA_4 (j := 153) rfl rfl
theorem k_4_155 : (Jvm.Cond.lays "StaveHouse$Part" "StaveHouse$Part" "clef" "I") ∈ wAll := wA_4 (j := 155) rfl rfl
theorem k_4_157 : (Jvm.Cond.lays "StaveHouse$Part" "StaveHouse$Part" "number" "I") ∈ wAll := wA_4 (j := 157) rfl rfl
theorem k_4_159 : (Jvm.Cond.lays "StaveHouse$Part" "StaveHouse$Part" "token" "I") ∈ wAll := wA_4 (j := 159) rfl rfl
theorem k_4_161 : (Jvm.Cond.lays "StaveHouse$Part" "StaveHouse$Part" "root" "I") ∈ wAll := wA_4 (j := 161) rfl rfl
theorem k_4_163 : (Jvm.Cond.laysFinal "StaveHouse$Part" "StaveHouse$Part" "events" "[LStaveHouse$Event;") ∈ wAll := wA_4 (j := 163) rfl rfl
theorem k_4_165 : (Jvm.Cond.lays "StaveHouse$Part" "StaveHouse$Part" "eventCount" "I") ∈ wAll := wA_4 (j := 165) rfl rfl
theorem k_4_167 : (Jvm.Cond.lays "StaveHouse$Part" "StaveHouse$Part" "endPlace" "J") ∈ wAll := wA_4 (j := 167) rfl rfl
theorem k_4_169 : (Jvm.Cond.laysFinal "StaveHouse$Part" "StaveHouse$Part" "notes" "[[I") ∈ wAll := wA_4 (j := 169) rfl rfl
theorem k_4_171 : (Jvm.Cond.laysFinal "StaveHouse$Part" "StaveHouse$Part" "notePlaces" "[J") ∈ wAll := wA_4 (j := 171) rfl rfl
theorem k_4_173 : (Jvm.Cond.lays "StaveHouse$Part" "StaveHouse$Part" "noteCount" "I") ∈ wAll := wA_4 (j := 173) rfl rfl
theorem k_4_175 : (Jvm.Cond.lays "StaveHouse$Part" "StaveHouse$Part" "tooManyNotes" "Z") ∈ wAll := wA_4 (j := 175) rfl rfl
theorem k_4_177 : (Jvm.Cond.laysFinal "StaveHouse$Part" "StaveHouse$Part" "known" "[I") ∈ wAll := wA_4 (j := 177) rfl rfl
theorem k_1_209 : (Jvm.Cond.lays "StaveHouse$Walker" "StaveHouse$Walker" "tree" "LStaveHouse$Parser;") ∈ wAll := wA_1 (j := 209) rfl rfl
theorem k_1_211 : (Jvm.Cond.lays "StaveHouse$Walker" "StaveHouse$Walker" "part" "LStaveHouse$Part;") ∈ wAll := wA_1 (j := 211) rfl rfl
theorem k_1_213 : (Jvm.Cond.lays "StaveHouse$Walker" "StaveHouse$Walker" "wrong" "I") ∈ wAll := wA_1 (j := 213) rfl rfl
theorem k_1_215 : (Jvm.Cond.lays "StaveHouse$Walker" "StaveHouse$Walker" "gone" "I") ∈ wAll := wA_1 (j := 215) rfl rfl
theorem k_1_217 : (Jvm.Cond.lays "StaveHouse$Walker" "StaveHouse$Walker" "loud" "I") ∈ wAll := wA_1 (j := 217) rfl rfl
theorem k_1_219 : (Jvm.Cond.lays "StaveHouse$Walker" "StaveHouse$Walker" "backs" "I") ∈ wAll := wA_1 (j := 219) rfl rfl
theorem k_1_221 : (Jvm.Cond.lays "StaveHouse$Walker" "StaveHouse$Walker" "brackets" "I") ∈ wAll := wA_1 (j := 221) rfl rfl
theorem k_1_223 : (Jvm.Cond.lays "StaveHouse$Walker" "StaveHouse$Walker" "bracket" "I") ∈ wAll := wA_1 (j := 223) rfl rfl
theorem k_1_225 : (Jvm.Cond.lays "StaveHouse$Walker" "StaveHouse$Walker" "bracketPlace" "I") ∈ wAll := wA_1 (j := 225) rfl rfl
theorem k_1_227 : (Jvm.Cond.lays "StaveHouse$Walker" "StaveHouse$Walker" "tupletFirst" "I") ∈ wAll := wA_1 (j := 227) rfl rfl
theorem k_1_229 : (Jvm.Cond.lays "StaveHouse$Walker" "StaveHouse$Walker" "tupletSecond" "I") ∈ wAll := wA_1 (j := 229) rfl rfl
theorem k_1_231 : (Jvm.Cond.lays "StaveHouse$Walker" "StaveHouse$Walker" "come" "J") ∈ wAll := wA_1 (j := 231) rfl rfl
theorem k_1_233 : (Jvm.Cond.lays "StaveHouse$Walker" "StaveHouse$Walker" "farthest" "J") ∈ wAll := wA_1 (j := 233) rfl rfl
theorem k_1_235 : (Jvm.Cond.lays "StaveHouse$Walker" "StaveHouse$Walker" "bar" "J") ∈ wAll := wA_1 (j := 235) rfl rfl
theorem k_1_237 : (Jvm.Cond.laysFinal "StaveHouse$Walker" "StaveHouse$Walker" "powers" "[I") ∈ wAll := wA_1 (j := 237) rfl rfl
theorem k_1_239 : (Jvm.Cond.laysFinal "StaveHouse$Walker" "StaveHouse$Walker" "carrySigns" "[I") ∈ wAll := wA_1 (j := 239) rfl rfl
theorem k_2_1 : (Jvm.Cond.laysFinal "StaveHouse$Walker" "StaveHouse$Walker" "carrySteps" "[I") ∈ wAll := wA_2 (j := 1) rfl rfl
theorem k_2_3 : (Jvm.Cond.laysFinal "StaveHouse$Walker" "StaveHouse$Walker" "carryTones" "[I") ∈ wAll := wA_2 (j := 3) rfl rfl
theorem k_2_5 : (Jvm.Cond.lays "StaveHouse$Walker" "StaveHouse$Walker" "carries" "I") ∈ wAll := wA_2 (j := 5) rfl rfl
theorem W_prog_8_method_4_code_0 : chW prog_8_method_4_code 0 [3, 62, 29, 42, 180, 0, 17, 162, 0, 25, 42, 180, 0, 11, 29, 50, 180, 0, 68, 31, 148, 154, 0, 5, 4, 172, 132, 3, 1, 167, 255, 229, 3, 172] := chW_of (by decide +kernel)
theorem d_8_4_0 : decode prog_8_method_4_code 0 = .ok (.iconst 0, 1) := D_3 W_prog_8_method_4_code_0 0 rfl rfl
theorem d_8_4_1 : decode prog_8_method_4_code 1 = .ok (.istore_n 3, 1) := D_62 W_prog_8_method_4_code_0 1 rfl rfl
theorem d_8_4_2 : decode prog_8_method_4_code 2 = .ok (.iload_n 3, 1) := D_29 W_prog_8_method_4_code_0 2 rfl rfl
theorem d_8_4_3 : decode prog_8_method_4_code 3 = .ok (.aload_n 0, 1) := D_42 W_prog_8_method_4_code_0 3 rfl rfl
theorem d_8_4_4 : decode prog_8_method_4_code 4 = .ok (.getfield 17, 3) := D_180 W_prog_8_method_4_code_0 4 rfl rfl rfl
theorem d_8_4_7 : decode prog_8_method_4_code 7 = .ok (.if_icmp .ge 25, 3) := D_162 W_prog_8_method_4_code_0 7 rfl rfl rfl
theorem W_prog_8_method_4_code_32 : chW prog_8_method_4_code 32 [3, 172] := chW_of (by decide +kernel)
theorem d_8_4_32 : decode prog_8_method_4_code 32 = .ok (.iconst 0, 1) := D_3 W_prog_8_method_4_code_32 0 rfl rfl
theorem d_8_4_33 : decode prog_8_method_4_code 33 = .ok (.ireturn, 1) := D_172 W_prog_8_method_4_code_32 1 rfl rfl
theorem d_8_4_10 : decode prog_8_method_4_code 10 = .ok (.aload_n 0, 1) := D_42 W_prog_8_method_4_code_0 10 rfl rfl
theorem d_8_4_11 : decode prog_8_method_4_code 11 = .ok (.getfield 11, 3) := D_180 W_prog_8_method_4_code_0 11 rfl rfl rfl
theorem d_8_4_14 : decode prog_8_method_4_code 14 = .ok (.iload_n 3, 1) := D_29 W_prog_8_method_4_code_0 14 rfl rfl
theorem d_8_4_15 : decode prog_8_method_4_code 15 = .ok (.aaload, 1) := D_50 W_prog_8_method_4_code_0 15 rfl rfl
theorem d_8_4_16 : decode prog_8_method_4_code 16 = .ok (.getfield 68, 3) := D_180 W_prog_8_method_4_code_0 16 rfl rfl rfl
theorem d_8_4_19 : decode prog_8_method_4_code 19 = .ok (.lload_n 1, 1) := D_31 W_prog_8_method_4_code_0 19 rfl rfl
theorem d_8_4_20 : decode prog_8_method_4_code 20 = .ok (.lcmp, 1) := D_148 W_prog_8_method_4_code_0 20 rfl rfl
theorem d_8_4_21 : decode prog_8_method_4_code 21 = .ok (.ifCond .ne 5, 3) := D_154 W_prog_8_method_4_code_0 21 rfl rfl rfl
theorem d_8_4_26 : decode prog_8_method_4_code 26 = .ok (.iinc 3 1, 3) := D_132 W_prog_8_method_4_code_0 26 rfl rfl rfl
theorem d_8_4_29 : decode prog_8_method_4_code 29 = .ok (.goto (-27), 3) := D_167 W_prog_8_method_4_code_0 29 rfl rfl rfl
theorem d_8_4_24 : decode prog_8_method_4_code 24 = .ok (.iconst 1, 1) := D_4 W_prog_8_method_4_code_0 24 rfl rfl
theorem d_8_4_25 : decode prog_8_method_4_code 25 = .ok (.ireturn, 1) := D_172 W_prog_8_method_4_code_0 25 rfl rfl
theorem W_prog_6_method_2_code_0 : chW prog_6_method_2_code 0 [42, 3, 181, 0, 31, 42, 3, 181, 0, 35, 42, 9, 181, 0, 38, 177] := chW_of (by decide +kernel)
theorem d_6_2_0 : decode prog_6_method_2_code 0 = .ok (.aload_n 0, 1) := D_42 W_prog_6_method_2_code_0 0 rfl rfl
theorem d_6_2_1 : decode prog_6_method_2_code 1 = .ok (.iconst 0, 1) := D_3 W_prog_6_method_2_code_0 1 rfl rfl
theorem d_6_2_2 : decode prog_6_method_2_code 2 = .ok (.putfield 31, 3) := D_181 W_prog_6_method_2_code_0 2 rfl rfl rfl
theorem d_6_2_5 : decode prog_6_method_2_code 5 = .ok (.aload_n 0, 1) := D_42 W_prog_6_method_2_code_0 5 rfl rfl
theorem d_6_2_6 : decode prog_6_method_2_code 6 = .ok (.iconst 0, 1) := D_3 W_prog_6_method_2_code_0 6 rfl rfl
theorem d_6_2_7 : decode prog_6_method_2_code 7 = .ok (.putfield 35, 3) := D_181 W_prog_6_method_2_code_0 7 rfl rfl rfl
theorem d_6_2_10 : decode prog_6_method_2_code 10 = .ok (.aload_n 0, 1) := D_42 W_prog_6_method_2_code_0 10 rfl rfl
theorem d_6_2_11 : decode prog_6_method_2_code 11 = .ok (.lconst 0, 1) := D_9 W_prog_6_method_2_code_0 11 rfl rfl
theorem d_6_2_12 : decode prog_6_method_2_code 12 = .ok (.putfield 38, 3) := D_181 W_prog_6_method_2_code_0 12 rfl rfl rfl
theorem d_6_2_15 : decode prog_6_method_2_code 15 = .ok (.return_, 1) := D_177 W_prog_6_method_2_code_0 15 rfl rfl
theorem W_prog_8_method_5_code_0 : chW prog_8_method_5_code 0 [20, 0, 72, 42, 180, 0, 30, 4, 184, 0, 74, 133, 109, 42, 180, 0, 27, 133, 105, 173] := chW_of (by decide +kernel)
theorem d_8_5_0 : decode prog_8_method_5_code 0 = .ok (.ldc2_w 72, 3) := D_20 W_prog_8_method_5_code_0 0 rfl rfl rfl
theorem d_8_5_3 : decode prog_8_method_5_code 3 = .ok (.aload_n 0, 1) := D_42 W_prog_8_method_5_code_0 3 rfl rfl
theorem d_8_5_4 : decode prog_8_method_5_code 4 = .ok (.getfield 30, 3) := D_180 W_prog_8_method_5_code_0 4 rfl rfl rfl
theorem d_8_5_7 : decode prog_8_method_5_code 7 = .ok (.iconst 1, 1) := D_4 W_prog_8_method_5_code_0 7 rfl rfl
theorem d_8_5_8 : decode prog_8_method_5_code 8 = .ok (.invokestatic 74, 3) := D_184 W_prog_8_method_5_code_0 8 rfl rfl rfl
theorem d_8_5_11 : decode prog_8_method_5_code 11 = .ok (.i2l, 1) := D_133 W_prog_8_method_5_code_0 11 rfl rfl
theorem d_8_5_12 : decode prog_8_method_5_code 12 = .ok (.ldiv, 1) := D_109 W_prog_8_method_5_code_0 12 rfl rfl
theorem d_8_5_13 : decode prog_8_method_5_code 13 = .ok (.aload_n 0, 1) := D_42 W_prog_8_method_5_code_0 13 rfl rfl
theorem d_8_5_14 : decode prog_8_method_5_code 14 = .ok (.getfield 27, 3) := D_180 W_prog_8_method_5_code_0 14 rfl rfl rfl
theorem d_8_5_17 : decode prog_8_method_5_code 17 = .ok (.i2l, 1) := D_133 W_prog_8_method_5_code_0 17 rfl rfl
theorem d_8_5_18 : decode prog_8_method_5_code 18 = .ok (.lmul, 1) := D_105 W_prog_8_method_5_code_0 18 rfl rfl
theorem d_8_5_19 : decode prog_8_method_5_code 19 = .ok (.lreturn, 1) := D_173 W_prog_8_method_5_code_0 19 rfl rfl
theorem W_prog_13_method_3_code_0 : chW prog_13_method_3_code 0 [42, 180, 0, 32, 154, 0, 13, 42, 27, 16, 16, 28, 104, 96, 181, 0, 32, 177] := chW_of (by decide +kernel)
theorem d_13_3_0 : decode prog_13_method_3_code 0 = .ok (.aload_n 0, 1) := D_42 W_prog_13_method_3_code_0 0 rfl rfl
theorem d_13_3_1 : decode prog_13_method_3_code 1 = .ok (.getfield 32, 3) := D_180 W_prog_13_method_3_code_0 1 rfl rfl rfl
theorem d_13_3_4 : decode prog_13_method_3_code 4 = .ok (.ifCond .ne 13, 3) := D_154 W_prog_13_method_3_code_0 4 rfl rfl rfl
theorem d_13_3_7 : decode prog_13_method_3_code 7 = .ok (.aload_n 0, 1) := D_42 W_prog_13_method_3_code_0 7 rfl rfl
theorem d_13_3_8 : decode prog_13_method_3_code 8 = .ok (.iload_n 1, 1) := D_27 W_prog_13_method_3_code_0 8 rfl rfl
theorem d_13_3_9 : decode prog_13_method_3_code 9 = .ok (.bipush 16, 2) := D_16 W_prog_13_method_3_code_0 9 rfl rfl rfl
theorem d_13_3_11 : decode prog_13_method_3_code 11 = .ok (.iload_n 2, 1) := D_28 W_prog_13_method_3_code_0 11 rfl rfl
theorem d_13_3_12 : decode prog_13_method_3_code 12 = .ok (.imul, 1) := D_104 W_prog_13_method_3_code_0 12 rfl rfl
theorem d_13_3_13 : decode prog_13_method_3_code 13 = .ok (.iadd, 1) := D_96 W_prog_13_method_3_code_0 13 rfl rfl
theorem d_13_3_14 : decode prog_13_method_3_code 14 = .ok (.putfield 32, 3) := D_181 W_prog_13_method_3_code_0 14 rfl rfl rfl
theorem d_13_3_17 : decode prog_13_method_3_code 17 = .ok (.return_, 1) := D_177 W_prog_13_method_3_code_0 17 rfl rfl
theorem W_prog_13_method_12_code_0 : chW prog_13_method_12_code 0 [27, 61, 3, 62, 29, 178, 0, 145, 190, 162, 0, 48, 42, 180, 0, 9, 29, 46, 54, 4, 21, 4, 156, 0, 29, 28, 178, 0, 145, 29, 46, 112, 153, 0, 5, 2] := chW_of (by decide +kernel)
theorem d_13_12_0 : decode prog_13_method_12_code 0 = .ok (.iload_n 1, 1) := D_27 W_prog_13_method_12_code_0 0 rfl rfl
theorem d_13_12_1 : decode prog_13_method_12_code 1 = .ok (.istore_n 2, 1) := D_61 W_prog_13_method_12_code_0 1 rfl rfl
theorem d_13_12_2 : decode prog_13_method_12_code 2 = .ok (.iconst 0, 1) := D_3 W_prog_13_method_12_code_0 2 rfl rfl
theorem d_13_12_3 : decode prog_13_method_12_code 3 = .ok (.istore_n 3, 1) := D_62 W_prog_13_method_12_code_0 3 rfl rfl
theorem d_13_12_4 : decode prog_13_method_12_code 4 = .ok (.iload_n 3, 1) := D_29 W_prog_13_method_12_code_0 4 rfl rfl
theorem d_13_12_5 : decode prog_13_method_12_code 5 = .ok (.getstatic 145, 3) := D_178 W_prog_13_method_12_code_0 5 rfl rfl rfl
theorem d_13_12_8 : decode prog_13_method_12_code 8 = .ok (.arraylength, 1) := D_190 W_prog_13_method_12_code_0 8 rfl rfl
theorem d_13_12_9 : decode prog_13_method_12_code 9 = .ok (.if_icmp .ge 48, 3) := D_162 W_prog_13_method_12_code_0 9 rfl rfl rfl
theorem W_prog_13_method_12_code_32 : chW prog_13_method_12_code 32 [153, 0, 5, 2, 172, 28, 178, 0, 145, 29, 46, 108, 61, 132, 4, 1, 167, 255, 228, 132, 3, 1, 167, 255, 206, 3, 62, 29, 178, 0, 145, 190, 162, 0, 46, 3] := chW_of (by decide +kernel)
theorem d_13_12_57 : decode prog_13_method_12_code 57 = .ok (.iconst 0, 1) := D_3 W_prog_13_method_12_code_32 25 rfl rfl
theorem d_13_12_58 : decode prog_13_method_12_code 58 = .ok (.istore_n 3, 1) := D_62 W_prog_13_method_12_code_32 26 rfl rfl
theorem d_13_12_12 : decode prog_13_method_12_code 12 = .ok (.aload_n 0, 1) := D_42 W_prog_13_method_12_code_0 12 rfl rfl
theorem d_13_12_13 : decode prog_13_method_12_code 13 = .ok (.getfield 9, 3) := D_180 W_prog_13_method_12_code_0 13 rfl rfl rfl
theorem d_13_12_16 : decode prog_13_method_12_code 16 = .ok (.iload_n 3, 1) := D_29 W_prog_13_method_12_code_0 16 rfl rfl
theorem d_13_12_17 : decode prog_13_method_12_code 17 = .ok (.iaload, 1) := D_46 W_prog_13_method_12_code_0 17 rfl rfl
theorem d_13_12_18 : decode prog_13_method_12_code 18 = .ok (.istore 4, 2) := D_54 W_prog_13_method_12_code_0 18 rfl rfl
theorem d_13_12_20 : decode prog_13_method_12_code 20 = .ok (.iload 4, 2) := D_21 W_prog_13_method_12_code_0 20 rfl rfl
theorem d_13_12_22 : decode prog_13_method_12_code 22 = .ok (.ifCond .ge 29, 3) := D_156 W_prog_13_method_12_code_0 22 rfl rfl rfl
theorem d_13_12_51 : decode prog_13_method_12_code 51 = .ok (.iinc 3 1, 3) := D_132 W_prog_13_method_12_code_32 19 rfl rfl rfl
theorem d_13_12_54 : decode prog_13_method_12_code 54 = .ok (.goto (-50), 3) := D_167 W_prog_13_method_12_code_32 22 rfl rfl rfl
theorem d_13_12_25 : decode prog_13_method_12_code 25 = .ok (.iload_n 2, 1) := D_28 W_prog_13_method_12_code_0 25 rfl rfl
theorem d_13_12_26 : decode prog_13_method_12_code 26 = .ok (.getstatic 145, 3) := D_178 W_prog_13_method_12_code_0 26 rfl rfl rfl
theorem d_13_12_29 : decode prog_13_method_12_code 29 = .ok (.iload_n 3, 1) := D_29 W_prog_13_method_12_code_0 29 rfl rfl
theorem d_13_12_30 : decode prog_13_method_12_code 30 = .ok (.iaload, 1) := D_46 W_prog_13_method_12_code_0 30 rfl rfl
theorem d_13_12_31 : decode prog_13_method_12_code 31 = .ok (.irem, 1) := D_112 W_prog_13_method_12_code_0 31 rfl rfl
theorem d_13_12_32 : decode prog_13_method_12_code 32 = .ok (.ifCond .eq 5, 3) := D_153 W_prog_13_method_12_code_32 0 rfl rfl rfl
theorem d_13_12_37 : decode prog_13_method_12_code 37 = .ok (.iload_n 2, 1) := D_28 W_prog_13_method_12_code_32 5 rfl rfl
theorem d_13_12_38 : decode prog_13_method_12_code 38 = .ok (.getstatic 145, 3) := D_178 W_prog_13_method_12_code_32 6 rfl rfl rfl
theorem d_13_12_41 : decode prog_13_method_12_code 41 = .ok (.iload_n 3, 1) := D_29 W_prog_13_method_12_code_32 9 rfl rfl
theorem d_13_12_42 : decode prog_13_method_12_code 42 = .ok (.iaload, 1) := D_46 W_prog_13_method_12_code_32 10 rfl rfl
theorem d_13_12_43 : decode prog_13_method_12_code 43 = .ok (.idiv, 1) := D_108 W_prog_13_method_12_code_32 11 rfl rfl
theorem d_13_12_44 : decode prog_13_method_12_code 44 = .ok (.istore_n 2, 1) := D_61 W_prog_13_method_12_code_32 12 rfl rfl
theorem d_13_12_45 : decode prog_13_method_12_code 45 = .ok (.iinc 4 1, 3) := D_132 W_prog_13_method_12_code_32 13 rfl rfl rfl
theorem d_13_12_48 : decode prog_13_method_12_code 48 = .ok (.goto (-28), 3) := D_167 W_prog_13_method_12_code_32 16 rfl rfl rfl
theorem d_13_12_35 : decode prog_13_method_12_code 35 = .ok (.iconst (-1), 1) := D_2 W_prog_13_method_12_code_32 3 rfl rfl
theorem d_13_12_36 : decode prog_13_method_12_code 36 = .ok (.ireturn, 1) := D_172 W_prog_13_method_12_code_32 4 rfl rfl
theorem d_13_12_59 : decode prog_13_method_12_code 59 = .ok (.iload_n 3, 1) := D_29 W_prog_13_method_12_code_32 27 rfl rfl
theorem d_13_12_60 : decode prog_13_method_12_code 60 = .ok (.getstatic 145, 3) := D_178 W_prog_13_method_12_code_32 28 rfl rfl rfl
theorem d_13_12_63 : decode prog_13_method_12_code 63 = .ok (.arraylength, 1) := D_190 W_prog_13_method_12_code_32 31 rfl rfl
theorem W_prog_13_method_12_code_64 : chW prog_13_method_12_code 64 [162, 0, 46, 3, 54, 4, 21, 4, 42, 180, 0, 9, 29, 46, 162, 0, 26, 28, 178, 0, 145, 29, 46, 104, 61, 28, 17, 4, 0, 164, 0, 5, 2, 172, 132, 4] := chW_of (by decide +kernel)
theorem d_13_12_64 : decode prog_13_method_12_code 64 = .ok (.if_icmp .ge 46, 3) := D_162 W_prog_13_method_12_code_64 0 rfl rfl rfl
theorem W_prog_13_method_12_code_96 : chW prog_13_method_12_code 96 [2, 172, 132, 4, 1, 167, 255, 225, 132, 3, 1, 167, 255, 208, 28, 17, 4, 0, 164, 0, 7, 2, 167, 0, 4, 28, 172] := chW_of (by decide +kernel)
theorem d_13_12_110 : decode prog_13_method_12_code 110 = .ok (.iload_n 2, 1) := D_28 W_prog_13_method_12_code_96 14 rfl rfl
theorem d_13_12_111 : decode prog_13_method_12_code 111 = .ok (.sipush 1024, 3) := D_17 W_prog_13_method_12_code_96 15 rfl rfl rfl
theorem d_13_12_114 : decode prog_13_method_12_code 114 = .ok (.if_icmp .le 7, 3) := D_164 W_prog_13_method_12_code_96 18 rfl rfl rfl
theorem d_13_12_121 : decode prog_13_method_12_code 121 = .ok (.iload_n 2, 1) := D_28 W_prog_13_method_12_code_96 25 rfl rfl
theorem d_13_12_117 : decode prog_13_method_12_code 117 = .ok (.iconst (-1), 1) := D_2 W_prog_13_method_12_code_96 21 rfl rfl
theorem d_13_12_118 : decode prog_13_method_12_code 118 = .ok (.goto 4, 3) := D_167 W_prog_13_method_12_code_96 22 rfl rfl rfl
theorem d_13_12_67 : decode prog_13_method_12_code 67 = .ok (.iconst 0, 1) := D_3 W_prog_13_method_12_code_64 3 rfl rfl
theorem d_13_12_68 : decode prog_13_method_12_code 68 = .ok (.istore 4, 2) := D_54 W_prog_13_method_12_code_64 4 rfl rfl
theorem d_13_12_70 : decode prog_13_method_12_code 70 = .ok (.iload 4, 2) := D_21 W_prog_13_method_12_code_64 6 rfl rfl
theorem d_13_12_72 : decode prog_13_method_12_code 72 = .ok (.aload_n 0, 1) := D_42 W_prog_13_method_12_code_64 8 rfl rfl
theorem d_13_12_73 : decode prog_13_method_12_code 73 = .ok (.getfield 9, 3) := D_180 W_prog_13_method_12_code_64 9 rfl rfl rfl
theorem d_13_12_76 : decode prog_13_method_12_code 76 = .ok (.iload_n 3, 1) := D_29 W_prog_13_method_12_code_64 12 rfl rfl
theorem d_13_12_77 : decode prog_13_method_12_code 77 = .ok (.iaload, 1) := D_46 W_prog_13_method_12_code_64 13 rfl rfl
theorem d_13_12_78 : decode prog_13_method_12_code 78 = .ok (.if_icmp .ge 26, 3) := D_162 W_prog_13_method_12_code_64 14 rfl rfl rfl
theorem d_13_12_104 : decode prog_13_method_12_code 104 = .ok (.iinc 3 1, 3) := D_132 W_prog_13_method_12_code_96 8 rfl rfl rfl
theorem d_13_12_107 : decode prog_13_method_12_code 107 = .ok (.goto (-48), 3) := D_167 W_prog_13_method_12_code_96 11 rfl rfl rfl
theorem d_13_12_81 : decode prog_13_method_12_code 81 = .ok (.iload_n 2, 1) := D_28 W_prog_13_method_12_code_64 17 rfl rfl
theorem d_13_12_82 : decode prog_13_method_12_code 82 = .ok (.getstatic 145, 3) := D_178 W_prog_13_method_12_code_64 18 rfl rfl rfl
theorem d_13_12_85 : decode prog_13_method_12_code 85 = .ok (.iload_n 3, 1) := D_29 W_prog_13_method_12_code_64 21 rfl rfl
theorem d_13_12_86 : decode prog_13_method_12_code 86 = .ok (.iaload, 1) := D_46 W_prog_13_method_12_code_64 22 rfl rfl
theorem d_13_12_87 : decode prog_13_method_12_code 87 = .ok (.imul, 1) := D_104 W_prog_13_method_12_code_64 23 rfl rfl
theorem d_13_12_88 : decode prog_13_method_12_code 88 = .ok (.istore_n 2, 1) := D_61 W_prog_13_method_12_code_64 24 rfl rfl
theorem d_13_12_89 : decode prog_13_method_12_code 89 = .ok (.iload_n 2, 1) := D_28 W_prog_13_method_12_code_64 25 rfl rfl
theorem d_13_12_90 : decode prog_13_method_12_code 90 = .ok (.sipush 1024, 3) := D_17 W_prog_13_method_12_code_64 26 rfl rfl rfl
theorem d_13_12_93 : decode prog_13_method_12_code 93 = .ok (.if_icmp .le 5, 3) := D_164 W_prog_13_method_12_code_64 29 rfl rfl rfl
theorem d_13_12_98 : decode prog_13_method_12_code 98 = .ok (.iinc 4 1, 3) := D_132 W_prog_13_method_12_code_96 2 rfl rfl rfl
theorem d_13_12_101 : decode prog_13_method_12_code 101 = .ok (.goto (-31), 3) := D_167 W_prog_13_method_12_code_96 5 rfl rfl rfl
theorem d_13_12_96 : decode prog_13_method_12_code 96 = .ok (.iconst (-1), 1) := D_2 W_prog_13_method_12_code_96 0 rfl rfl
theorem d_13_12_97 : decode prog_13_method_12_code 97 = .ok (.ireturn, 1) := D_172 W_prog_13_method_12_code_96 1 rfl rfl
theorem d_13_12_122 : decode prog_13_method_12_code 122 = .ok (.ireturn, 1) := D_172 W_prog_13_method_12_code_96 26 rfl rfl
theorem W_prog_3_method_5_code_0 : chW prog_3_method_5_code 0 [42, 180, 0, 18, 16, 6, 161, 0, 5, 3, 172, 42, 180, 0, 18, 62, 42, 180, 0, 18, 4, 100, 54, 4, 21, 4, 155, 0, 23, 42, 180, 0, 9, 21, 4, 46] := chW_of (by decide +kernel)
theorem d_3_5_0 : decode prog_3_method_5_code 0 = .ok (.aload_n 0, 1) := D_42 W_prog_3_method_5_code_0 0 rfl rfl
theorem d_3_5_1 : decode prog_3_method_5_code 1 = .ok (.getfield 18, 3) := D_180 W_prog_3_method_5_code_0 1 rfl rfl rfl
theorem d_3_5_4 : decode prog_3_method_5_code 4 = .ok (.bipush 6, 2) := D_16 W_prog_3_method_5_code_0 4 rfl rfl rfl
theorem d_3_5_6 : decode prog_3_method_5_code 6 = .ok (.if_icmp .lt 5, 3) := D_161 W_prog_3_method_5_code_0 6 rfl rfl rfl
theorem d_3_5_11 : decode prog_3_method_5_code 11 = .ok (.aload_n 0, 1) := D_42 W_prog_3_method_5_code_0 11 rfl rfl
theorem d_3_5_12 : decode prog_3_method_5_code 12 = .ok (.getfield 18, 3) := D_180 W_prog_3_method_5_code_0 12 rfl rfl rfl
theorem d_3_5_15 : decode prog_3_method_5_code 15 = .ok (.istore_n 3, 1) := D_62 W_prog_3_method_5_code_0 15 rfl rfl
theorem d_3_5_16 : decode prog_3_method_5_code 16 = .ok (.aload_n 0, 1) := D_42 W_prog_3_method_5_code_0 16 rfl rfl
theorem d_3_5_17 : decode prog_3_method_5_code 17 = .ok (.getfield 18, 3) := D_180 W_prog_3_method_5_code_0 17 rfl rfl rfl
theorem d_3_5_20 : decode prog_3_method_5_code 20 = .ok (.iconst 1, 1) := D_4 W_prog_3_method_5_code_0 20 rfl rfl
theorem d_3_5_21 : decode prog_3_method_5_code 21 = .ok (.isub, 1) := D_100 W_prog_3_method_5_code_0 21 rfl rfl
theorem d_3_5_22 : decode prog_3_method_5_code 22 = .ok (.istore 4, 2) := D_54 W_prog_3_method_5_code_0 22 rfl rfl
theorem d_3_5_9 : decode prog_3_method_5_code 9 = .ok (.iconst 0, 1) := D_3 W_prog_3_method_5_code_0 9 rfl rfl
theorem d_3_5_10 : decode prog_3_method_5_code 10 = .ok (.ireturn, 1) := D_172 W_prog_3_method_5_code_0 10 rfl rfl
theorem d_3_5_24 : decode prog_3_method_5_code 24 = .ok (.iload 4, 2) := D_21 W_prog_3_method_5_code_0 24 rfl rfl
theorem d_3_5_26 : decode prog_3_method_5_code 26 = .ok (.ifCond .lt 23, 3) := D_155 W_prog_3_method_5_code_0 26 rfl rfl rfl
theorem d_3_5_29 : decode prog_3_method_5_code 29 = .ok (.aload_n 0, 1) := D_42 W_prog_3_method_5_code_0 29 rfl rfl
theorem d_3_5_30 : decode prog_3_method_5_code 30 = .ok (.getfield 9, 3) := D_180 W_prog_3_method_5_code_0 30 rfl rfl rfl
theorem W_prog_3_method_5_code_32 : chW prog_3_method_5_code 32 [9, 21, 4, 46, 27, 161, 0, 12, 21, 4, 62, 132, 4, 255, 167, 255, 234, 29, 42, 180, 0, 18, 162, 0, 15, 42, 180, 0, 9, 29, 46, 27, 160, 0, 5, 3] := chW_of (by decide +kernel)
theorem d_3_5_33 : decode prog_3_method_5_code 33 = .ok (.iload 4, 2) := D_21 W_prog_3_method_5_code_32 1 rfl rfl
theorem d_3_5_35 : decode prog_3_method_5_code 35 = .ok (.iaload, 1) := D_46 W_prog_3_method_5_code_32 3 rfl rfl
theorem d_3_5_36 : decode prog_3_method_5_code 36 = .ok (.iload_n 1, 1) := D_27 W_prog_3_method_5_code_32 4 rfl rfl
theorem d_3_5_37 : decode prog_3_method_5_code 37 = .ok (.if_icmp .lt 12, 3) := D_161 W_prog_3_method_5_code_32 5 rfl rfl rfl
theorem d_3_5_40 : decode prog_3_method_5_code 40 = .ok (.iload 4, 2) := D_21 W_prog_3_method_5_code_32 8 rfl rfl
theorem d_3_5_42 : decode prog_3_method_5_code 42 = .ok (.istore_n 3, 1) := D_62 W_prog_3_method_5_code_32 10 rfl rfl
theorem d_3_5_43 : decode prog_3_method_5_code 43 = .ok (.iinc 4 (-1), 3) := D_132 W_prog_3_method_5_code_32 11 rfl rfl rfl
theorem d_3_5_46 : decode prog_3_method_5_code 46 = .ok (.goto (-22), 3) := D_167 W_prog_3_method_5_code_32 14 rfl rfl rfl
theorem d_3_5_49 : decode prog_3_method_5_code 49 = .ok (.iload_n 3, 1) := D_29 W_prog_3_method_5_code_32 17 rfl rfl
theorem d_3_5_50 : decode prog_3_method_5_code 50 = .ok (.aload_n 0, 1) := D_42 W_prog_3_method_5_code_32 18 rfl rfl
theorem d_3_5_51 : decode prog_3_method_5_code 51 = .ok (.getfield 18, 3) := D_180 W_prog_3_method_5_code_32 19 rfl rfl rfl
theorem d_3_5_54 : decode prog_3_method_5_code 54 = .ok (.if_icmp .ge 15, 3) := D_162 W_prog_3_method_5_code_32 22 rfl rfl rfl
theorem d_3_5_57 : decode prog_3_method_5_code 57 = .ok (.aload_n 0, 1) := D_42 W_prog_3_method_5_code_32 25 rfl rfl
theorem d_3_5_58 : decode prog_3_method_5_code 58 = .ok (.getfield 9, 3) := D_180 W_prog_3_method_5_code_32 26 rfl rfl rfl
theorem d_3_5_61 : decode prog_3_method_5_code 61 = .ok (.iload_n 3, 1) := D_29 W_prog_3_method_5_code_32 29 rfl rfl
theorem d_3_5_62 : decode prog_3_method_5_code 62 = .ok (.iaload, 1) := D_46 W_prog_3_method_5_code_32 30 rfl rfl
theorem d_3_5_63 : decode prog_3_method_5_code 63 = .ok (.iload_n 1, 1) := D_27 W_prog_3_method_5_code_32 31 rfl rfl
theorem W_prog_3_method_5_code_64 : chW prog_3_method_5_code 64 [160, 0, 5, 3, 172, 42, 180, 0, 18, 54, 4, 21, 4, 29, 164, 0, 41, 42, 180, 0, 9, 21, 4, 42, 180, 0, 9, 21, 4, 4, 100, 46, 79, 42, 180, 0] := chW_of (by decide +kernel)
theorem d_3_5_64 : decode prog_3_method_5_code 64 = .ok (.if_icmp .ne 5, 3) := D_160 W_prog_3_method_5_code_64 0 rfl rfl rfl
theorem d_3_5_67 : decode prog_3_method_5_code 67 = .ok (.iconst 0, 1) := D_3 W_prog_3_method_5_code_64 3 rfl rfl
theorem d_3_5_68 : decode prog_3_method_5_code 68 = .ok (.ireturn, 1) := D_172 W_prog_3_method_5_code_64 4 rfl rfl
theorem d_3_5_69 : decode prog_3_method_5_code 69 = .ok (.aload_n 0, 1) := D_42 W_prog_3_method_5_code_64 5 rfl rfl
theorem d_3_5_70 : decode prog_3_method_5_code 70 = .ok (.getfield 18, 3) := D_180 W_prog_3_method_5_code_64 6 rfl rfl rfl
theorem d_3_5_73 : decode prog_3_method_5_code 73 = .ok (.istore 4, 2) := D_54 W_prog_3_method_5_code_64 9 rfl rfl
theorem d_3_5_75 : decode prog_3_method_5_code 75 = .ok (.iload 4, 2) := D_21 W_prog_3_method_5_code_64 11 rfl rfl
theorem d_3_5_77 : decode prog_3_method_5_code 77 = .ok (.iload_n 3, 1) := D_29 W_prog_3_method_5_code_64 13 rfl rfl
theorem d_3_5_78 : decode prog_3_method_5_code 78 = .ok (.if_icmp .le 41, 3) := D_164 W_prog_3_method_5_code_64 14 rfl rfl rfl
theorem W_prog_3_method_5_code_96 : chW prog_3_method_5_code 96 [79, 42, 180, 0, 15, 21, 4, 42, 180, 0, 15, 21, 4, 4, 100, 46, 79, 132, 4, 255, 167, 255, 215, 42, 180, 0, 9, 29, 27, 79, 42, 180, 0, 15, 29, 28] := chW_of (by decide +kernel)
theorem d_3_5_119 : decode prog_3_method_5_code 119 = .ok (.aload_n 0, 1) := D_42 W_prog_3_method_5_code_96 23 rfl rfl
theorem d_3_5_120 : decode prog_3_method_5_code 120 = .ok (.getfield 9, 3) := D_180 W_prog_3_method_5_code_96 24 rfl rfl rfl
theorem d_3_5_123 : decode prog_3_method_5_code 123 = .ok (.iload_n 3, 1) := D_29 W_prog_3_method_5_code_96 27 rfl rfl
theorem d_3_5_124 : decode prog_3_method_5_code 124 = .ok (.iload_n 1, 1) := D_27 W_prog_3_method_5_code_96 28 rfl rfl
theorem d_3_5_125 : decode prog_3_method_5_code 125 = .ok (.iastore, 1) := D_79 W_prog_3_method_5_code_96 29 rfl rfl
theorem d_3_5_126 : decode prog_3_method_5_code 126 = .ok (.aload_n 0, 1) := D_42 W_prog_3_method_5_code_96 30 rfl rfl
theorem d_3_5_127 : decode prog_3_method_5_code 127 = .ok (.getfield 15, 3) := D_180 W_prog_3_method_5_code_96 31 rfl rfl rfl
theorem W_prog_3_method_5_code_128 : chW prog_3_method_5_code 128 [0, 15, 29, 28, 79, 42, 89, 180, 0, 18, 4, 96, 181, 0, 18, 4, 172] := chW_of (by decide +kernel)
theorem d_3_5_130 : decode prog_3_method_5_code 130 = .ok (.iload_n 3, 1) := D_29 W_prog_3_method_5_code_128 2 rfl rfl
theorem d_3_5_131 : decode prog_3_method_5_code 131 = .ok (.iload_n 2, 1) := D_28 W_prog_3_method_5_code_128 3 rfl rfl
theorem d_3_5_132 : decode prog_3_method_5_code 132 = .ok (.iastore, 1) := D_79 W_prog_3_method_5_code_128 4 rfl rfl
theorem d_3_5_133 : decode prog_3_method_5_code 133 = .ok (.aload_n 0, 1) := D_42 W_prog_3_method_5_code_128 5 rfl rfl
theorem d_3_5_134 : decode prog_3_method_5_code 134 = .ok (.dup, 1) := D_89 W_prog_3_method_5_code_128 6 rfl rfl
theorem d_3_5_135 : decode prog_3_method_5_code 135 = .ok (.getfield 18, 3) := D_180 W_prog_3_method_5_code_128 7 rfl rfl rfl
theorem d_3_5_138 : decode prog_3_method_5_code 138 = .ok (.iconst 1, 1) := D_4 W_prog_3_method_5_code_128 10 rfl rfl
theorem d_3_5_139 : decode prog_3_method_5_code 139 = .ok (.iadd, 1) := D_96 W_prog_3_method_5_code_128 11 rfl rfl
theorem d_3_5_140 : decode prog_3_method_5_code 140 = .ok (.putfield 18, 3) := D_181 W_prog_3_method_5_code_128 12 rfl rfl rfl
theorem d_3_5_143 : decode prog_3_method_5_code 143 = .ok (.iconst 1, 1) := D_4 W_prog_3_method_5_code_128 15 rfl rfl
theorem d_3_5_144 : decode prog_3_method_5_code 144 = .ok (.ireturn, 1) := D_172 W_prog_3_method_5_code_128 16 rfl rfl
theorem d_3_5_81 : decode prog_3_method_5_code 81 = .ok (.aload_n 0, 1) := D_42 W_prog_3_method_5_code_64 17 rfl rfl
theorem d_3_5_82 : decode prog_3_method_5_code 82 = .ok (.getfield 9, 3) := D_180 W_prog_3_method_5_code_64 18 rfl rfl rfl
theorem d_3_5_85 : decode prog_3_method_5_code 85 = .ok (.iload 4, 2) := D_21 W_prog_3_method_5_code_64 21 rfl rfl
theorem d_3_5_87 : decode prog_3_method_5_code 87 = .ok (.aload_n 0, 1) := D_42 W_prog_3_method_5_code_64 23 rfl rfl
theorem d_3_5_88 : decode prog_3_method_5_code 88 = .ok (.getfield 9, 3) := D_180 W_prog_3_method_5_code_64 24 rfl rfl rfl
theorem d_3_5_91 : decode prog_3_method_5_code 91 = .ok (.iload 4, 2) := D_21 W_prog_3_method_5_code_64 27 rfl rfl
theorem d_3_5_93 : decode prog_3_method_5_code 93 = .ok (.iconst 1, 1) := D_4 W_prog_3_method_5_code_64 29 rfl rfl
theorem d_3_5_94 : decode prog_3_method_5_code 94 = .ok (.isub, 1) := D_100 W_prog_3_method_5_code_64 30 rfl rfl
theorem d_3_5_95 : decode prog_3_method_5_code 95 = .ok (.iaload, 1) := D_46 W_prog_3_method_5_code_64 31 rfl rfl
theorem d_3_5_96 : decode prog_3_method_5_code 96 = .ok (.iastore, 1) := D_79 W_prog_3_method_5_code_96 0 rfl rfl
theorem d_3_5_97 : decode prog_3_method_5_code 97 = .ok (.aload_n 0, 1) := D_42 W_prog_3_method_5_code_96 1 rfl rfl
theorem d_3_5_98 : decode prog_3_method_5_code 98 = .ok (.getfield 15, 3) := D_180 W_prog_3_method_5_code_96 2 rfl rfl rfl
theorem d_3_5_101 : decode prog_3_method_5_code 101 = .ok (.iload 4, 2) := D_21 W_prog_3_method_5_code_96 5 rfl rfl
theorem d_3_5_103 : decode prog_3_method_5_code 103 = .ok (.aload_n 0, 1) := D_42 W_prog_3_method_5_code_96 7 rfl rfl
theorem d_3_5_104 : decode prog_3_method_5_code 104 = .ok (.getfield 15, 3) := D_180 W_prog_3_method_5_code_96 8 rfl rfl rfl
theorem d_3_5_107 : decode prog_3_method_5_code 107 = .ok (.iload 4, 2) := D_21 W_prog_3_method_5_code_96 11 rfl rfl
theorem d_3_5_109 : decode prog_3_method_5_code 109 = .ok (.iconst 1, 1) := D_4 W_prog_3_method_5_code_96 13 rfl rfl
theorem d_3_5_110 : decode prog_3_method_5_code 110 = .ok (.isub, 1) := D_100 W_prog_3_method_5_code_96 14 rfl rfl
theorem d_3_5_111 : decode prog_3_method_5_code 111 = .ok (.iaload, 1) := D_46 W_prog_3_method_5_code_96 15 rfl rfl
theorem d_3_5_112 : decode prog_3_method_5_code 112 = .ok (.iastore, 1) := D_79 W_prog_3_method_5_code_96 16 rfl rfl
theorem d_3_5_113 : decode prog_3_method_5_code 113 = .ok (.iinc 4 (-1), 3) := D_132 W_prog_3_method_5_code_96 17 rfl rfl rfl
theorem d_3_5_116 : decode prog_3_method_5_code 116 = .ok (.goto (-41), 3) := D_167 W_prog_3_method_5_code_96 20 rfl rfl rfl
theorem W_prog_3_method_3_code_0 : chW prog_3_method_3_code 0 [42, 180, 0, 22, 27, 126, 153, 0, 7, 4, 167, 0, 4, 3, 172] := chW_of (by decide +kernel)
theorem d_3_3_0 : decode prog_3_method_3_code 0 = .ok (.aload_n 0, 1) := D_42 W_prog_3_method_3_code_0 0 rfl rfl
theorem d_3_3_1 : decode prog_3_method_3_code 1 = .ok (.getfield 22, 3) := D_180 W_prog_3_method_3_code_0 1 rfl rfl rfl
theorem d_3_3_4 : decode prog_3_method_3_code 4 = .ok (.iload_n 1, 1) := D_27 W_prog_3_method_3_code_0 4 rfl rfl
theorem d_3_3_5 : decode prog_3_method_3_code 5 = .ok (.iand, 1) := D_126 W_prog_3_method_3_code_0 5 rfl rfl
theorem d_3_3_6 : decode prog_3_method_3_code 6 = .ok (.ifCond .eq 7, 3) := D_153 W_prog_3_method_3_code_0 6 rfl rfl rfl
theorem d_3_3_13 : decode prog_3_method_3_code 13 = .ok (.iconst 0, 1) := D_3 W_prog_3_method_3_code_0 13 rfl rfl
theorem d_3_3_9 : decode prog_3_method_3_code 9 = .ok (.iconst 1, 1) := D_4 W_prog_3_method_3_code_0 9 rfl rfl
theorem d_3_3_10 : decode prog_3_method_3_code 10 = .ok (.goto 4, 3) := D_167 W_prog_3_method_3_code_0 10 rfl rfl rfl
theorem d_3_3_14 : decode prog_3_method_3_code 14 = .ok (.ireturn, 1) := D_172 W_prog_3_method_3_code_0 14 rfl rfl
theorem W_prog_13_method_11_code_0 : chW prog_13_method_11_code 0 [27, 62, 3, 54, 4, 21, 4, 178, 0, 145, 190, 162, 0, 55, 3, 54, 5, 21, 5, 7, 162, 0, 40, 29, 178, 0, 145, 21, 4, 46, 112, 154, 0, 29, 29, 178] := chW_of (by decide +kernel)
theorem d_13_11_0 : decode prog_13_method_11_code 0 = .ok (.iload_n 1, 1) := D_27 W_prog_13_method_11_code_0 0 rfl rfl
theorem d_13_11_1 : decode prog_13_method_11_code 1 = .ok (.istore_n 3, 1) := D_62 W_prog_13_method_11_code_0 1 rfl rfl
theorem d_13_11_2 : decode prog_13_method_11_code 2 = .ok (.iconst 0, 1) := D_3 W_prog_13_method_11_code_0 2 rfl rfl
theorem d_13_11_3 : decode prog_13_method_11_code 3 = .ok (.istore 4, 2) := D_54 W_prog_13_method_11_code_0 3 rfl rfl
theorem d_13_11_5 : decode prog_13_method_11_code 5 = .ok (.iload 4, 2) := D_21 W_prog_13_method_11_code_0 5 rfl rfl
theorem d_13_11_7 : decode prog_13_method_11_code 7 = .ok (.getstatic 145, 3) := D_178 W_prog_13_method_11_code_0 7 rfl rfl rfl
theorem d_13_11_10 : decode prog_13_method_11_code 10 = .ok (.arraylength, 1) := D_190 W_prog_13_method_11_code_0 10 rfl rfl
theorem d_13_11_11 : decode prog_13_method_11_code 11 = .ok (.if_icmp .ge 55, 3) := D_162 W_prog_13_method_11_code_0 11 rfl rfl rfl
theorem W_prog_13_method_11_code_64 : chW prog_13_method_11_code 64 [255, 198, 177] := chW_of (by decide +kernel)
theorem d_13_11_66 : decode prog_13_method_11_code 66 = .ok (.return_, 1) := D_177 W_prog_13_method_11_code_64 2 rfl rfl
theorem d_13_11_14 : decode prog_13_method_11_code 14 = .ok (.iconst 0, 1) := D_3 W_prog_13_method_11_code_0 14 rfl rfl
theorem d_13_11_15 : decode prog_13_method_11_code 15 = .ok (.istore 5, 2) := D_54 W_prog_13_method_11_code_0 15 rfl rfl
theorem d_13_11_17 : decode prog_13_method_11_code 17 = .ok (.iload 5, 2) := D_21 W_prog_13_method_11_code_0 17 rfl rfl
theorem d_13_11_19 : decode prog_13_method_11_code 19 = .ok (.iconst 4, 1) := D_7 W_prog_13_method_11_code_0 19 rfl rfl
theorem d_13_11_20 : decode prog_13_method_11_code 20 = .ok (.if_icmp .ge 40, 3) := D_162 W_prog_13_method_11_code_0 20 rfl rfl rfl
theorem d_13_11_23 : decode prog_13_method_11_code 23 = .ok (.iload_n 3, 1) := D_29 W_prog_13_method_11_code_0 23 rfl rfl
theorem d_13_11_24 : decode prog_13_method_11_code 24 = .ok (.getstatic 145, 3) := D_178 W_prog_13_method_11_code_0 24 rfl rfl rfl
theorem d_13_11_27 : decode prog_13_method_11_code 27 = .ok (.iload 4, 2) := D_21 W_prog_13_method_11_code_0 27 rfl rfl
theorem d_13_11_29 : decode prog_13_method_11_code 29 = .ok (.iaload, 1) := D_46 W_prog_13_method_11_code_0 29 rfl rfl
theorem d_13_11_30 : decode prog_13_method_11_code 30 = .ok (.irem, 1) := D_112 W_prog_13_method_11_code_0 30 rfl rfl
theorem d_13_11_31 : decode prog_13_method_11_code 31 = .ok (.ifCond .ne 29, 3) := D_154 W_prog_13_method_11_code_0 31 rfl rfl rfl
theorem W_prog_13_method_11_code_32 : chW prog_13_method_11_code 32 [0, 29, 29, 178, 0, 145, 21, 4, 46, 108, 62, 42, 180, 0, 9, 21, 4, 92, 46, 28, 96, 79, 132, 5, 1, 167, 255, 216, 132, 4, 1, 167, 255, 198, 177] := chW_of (by decide +kernel)
theorem d_13_11_34 : decode prog_13_method_11_code 34 = .ok (.iload_n 3, 1) := D_29 W_prog_13_method_11_code_32 2 rfl rfl
theorem d_13_11_35 : decode prog_13_method_11_code 35 = .ok (.getstatic 145, 3) := D_178 W_prog_13_method_11_code_32 3 rfl rfl rfl
theorem d_13_11_38 : decode prog_13_method_11_code 38 = .ok (.iload 4, 2) := D_21 W_prog_13_method_11_code_32 6 rfl rfl
theorem d_13_11_40 : decode prog_13_method_11_code 40 = .ok (.iaload, 1) := D_46 W_prog_13_method_11_code_32 8 rfl rfl
theorem d_13_11_41 : decode prog_13_method_11_code 41 = .ok (.idiv, 1) := D_108 W_prog_13_method_11_code_32 9 rfl rfl
theorem d_13_11_42 : decode prog_13_method_11_code 42 = .ok (.istore_n 3, 1) := D_62 W_prog_13_method_11_code_32 10 rfl rfl
theorem d_13_11_43 : decode prog_13_method_11_code 43 = .ok (.aload_n 0, 1) := D_42 W_prog_13_method_11_code_32 11 rfl rfl
theorem d_13_11_44 : decode prog_13_method_11_code 44 = .ok (.getfield 9, 3) := D_180 W_prog_13_method_11_code_32 12 rfl rfl rfl
theorem d_13_11_47 : decode prog_13_method_11_code 47 = .ok (.iload 4, 2) := D_21 W_prog_13_method_11_code_32 15 rfl rfl
theorem d_13_11_49 : decode prog_13_method_11_code 49 = .ok (.dup2, 1) := D_92 W_prog_13_method_11_code_32 17 rfl rfl
theorem d_13_11_50 : decode prog_13_method_11_code 50 = .ok (.iaload, 1) := D_46 W_prog_13_method_11_code_32 18 rfl rfl
theorem d_13_11_51 : decode prog_13_method_11_code 51 = .ok (.iload_n 2, 1) := D_28 W_prog_13_method_11_code_32 19 rfl rfl
theorem d_13_11_52 : decode prog_13_method_11_code 52 = .ok (.iadd, 1) := D_96 W_prog_13_method_11_code_32 20 rfl rfl
theorem d_13_11_53 : decode prog_13_method_11_code 53 = .ok (.iastore, 1) := D_79 W_prog_13_method_11_code_32 21 rfl rfl
theorem d_13_11_54 : decode prog_13_method_11_code 54 = .ok (.iinc 5 1, 3) := D_132 W_prog_13_method_11_code_32 22 rfl rfl rfl
theorem d_13_11_57 : decode prog_13_method_11_code 57 = .ok (.goto (-40), 3) := D_167 W_prog_13_method_11_code_32 25 rfl rfl rfl
theorem d_13_11_60 : decode prog_13_method_11_code 60 = .ok (.iinc 4 1, 3) := D_132 W_prog_13_method_11_code_32 28 rfl rfl rfl
theorem d_13_11_63 : decode prog_13_method_11_code 63 = .ok (.goto (-58), 3) := D_167 W_prog_13_method_11_code_32 31 rfl rfl rfl
theorem W_prog_6_method_5_code_0 : chW prog_6_method_5_code 0 [42, 9, 181, 0, 38, 3, 60, 27, 42, 180, 0, 31, 162, 0, 40, 42, 180, 0, 11, 27, 50, 42, 180, 0, 38, 181, 0, 84, 42, 89, 180, 0, 38, 42, 180, 0] := chW_of (by decide +kernel)
theorem d_6_5_0 : decode prog_6_method_5_code 0 = .ok (.aload_n 0, 1) := D_42 W_prog_6_method_5_code_0 0 rfl rfl
theorem d_6_5_1 : decode prog_6_method_5_code 1 = .ok (.lconst 0, 1) := D_9 W_prog_6_method_5_code_0 1 rfl rfl
theorem d_6_5_2 : decode prog_6_method_5_code 2 = .ok (.putfield 38, 3) := D_181 W_prog_6_method_5_code_0 2 rfl rfl rfl
theorem d_6_5_5 : decode prog_6_method_5_code 5 = .ok (.iconst 0, 1) := D_3 W_prog_6_method_5_code_0 5 rfl rfl
theorem d_6_5_6 : decode prog_6_method_5_code 6 = .ok (.istore_n 1, 1) := D_60 W_prog_6_method_5_code_0 6 rfl rfl
theorem d_6_5_7 : decode prog_6_method_5_code 7 = .ok (.iload_n 1, 1) := D_27 W_prog_6_method_5_code_0 7 rfl rfl
theorem d_6_5_8 : decode prog_6_method_5_code 8 = .ok (.aload_n 0, 1) := D_42 W_prog_6_method_5_code_0 8 rfl rfl
theorem d_6_5_9 : decode prog_6_method_5_code 9 = .ok (.getfield 31, 3) := D_180 W_prog_6_method_5_code_0 9 rfl rfl rfl
theorem d_6_5_12 : decode prog_6_method_5_code 12 = .ok (.if_icmp .ge 40, 3) := D_162 W_prog_6_method_5_code_0 12 rfl rfl rfl
theorem W_prog_6_method_5_code_32 : chW prog_6_method_5_code 32 [38, 42, 180, 0, 11, 27, 50, 180, 0, 87, 97, 181, 0, 38, 132, 1, 1, 167, 255, 214, 177] := chW_of (by decide +kernel)
theorem d_6_5_52 : decode prog_6_method_5_code 52 = .ok (.return_, 1) := D_177 W_prog_6_method_5_code_32 20 rfl rfl
theorem d_6_5_15 : decode prog_6_method_5_code 15 = .ok (.aload_n 0, 1) := D_42 W_prog_6_method_5_code_0 15 rfl rfl
theorem d_6_5_16 : decode prog_6_method_5_code 16 = .ok (.getfield 11, 3) := D_180 W_prog_6_method_5_code_0 16 rfl rfl rfl
theorem d_6_5_19 : decode prog_6_method_5_code 19 = .ok (.iload_n 1, 1) := D_27 W_prog_6_method_5_code_0 19 rfl rfl
theorem d_6_5_20 : decode prog_6_method_5_code 20 = .ok (.aaload, 1) := D_50 W_prog_6_method_5_code_0 20 rfl rfl
theorem d_6_5_21 : decode prog_6_method_5_code 21 = .ok (.aload_n 0, 1) := D_42 W_prog_6_method_5_code_0 21 rfl rfl
theorem d_6_5_22 : decode prog_6_method_5_code 22 = .ok (.getfield 38, 3) := D_180 W_prog_6_method_5_code_0 22 rfl rfl rfl
theorem d_6_5_25 : decode prog_6_method_5_code 25 = .ok (.putfield 84, 3) := D_181 W_prog_6_method_5_code_0 25 rfl rfl rfl
theorem d_6_5_28 : decode prog_6_method_5_code 28 = .ok (.aload_n 0, 1) := D_42 W_prog_6_method_5_code_0 28 rfl rfl
theorem d_6_5_29 : decode prog_6_method_5_code 29 = .ok (.dup, 1) := D_89 W_prog_6_method_5_code_0 29 rfl rfl
theorem d_6_5_30 : decode prog_6_method_5_code 30 = .ok (.getfield 38, 3) := D_180 W_prog_6_method_5_code_0 30 rfl rfl rfl
theorem d_6_5_33 : decode prog_6_method_5_code 33 = .ok (.aload_n 0, 1) := D_42 W_prog_6_method_5_code_32 1 rfl rfl
theorem d_6_5_34 : decode prog_6_method_5_code 34 = .ok (.getfield 11, 3) := D_180 W_prog_6_method_5_code_32 2 rfl rfl rfl
theorem d_6_5_37 : decode prog_6_method_5_code 37 = .ok (.iload_n 1, 1) := D_27 W_prog_6_method_5_code_32 5 rfl rfl
theorem d_6_5_38 : decode prog_6_method_5_code 38 = .ok (.aaload, 1) := D_50 W_prog_6_method_5_code_32 6 rfl rfl
theorem d_6_5_39 : decode prog_6_method_5_code 39 = .ok (.getfield 87, 3) := D_180 W_prog_6_method_5_code_32 7 rfl rfl rfl
theorem d_6_5_42 : decode prog_6_method_5_code 42 = .ok (.ladd, 1) := D_97 W_prog_6_method_5_code_32 10 rfl rfl
theorem d_6_5_43 : decode prog_6_method_5_code 43 = .ok (.putfield 38, 3) := D_181 W_prog_6_method_5_code_32 11 rfl rfl rfl
theorem d_6_5_46 : decode prog_6_method_5_code 46 = .ok (.iinc 1 1, 3) := D_132 W_prog_6_method_5_code_32 14 rfl rfl rfl
theorem d_6_5_49 : decode prog_6_method_5_code 49 = .ok (.goto (-42), 3) := D_167 W_prog_6_method_5_code_32 17 rfl rfl rfl
theorem W_prog_6_method_6_code_0 : chW prog_6_method_6_code 0 [42, 180, 0, 11, 27, 50, 180, 0, 90, 54, 4, 21, 4, 153, 0, 29, 27, 158, 0, 19, 42, 180, 0, 11, 27, 4, 100, 50, 180, 0, 90, 21, 4, 159, 0, 9] := chW_of (by decide +kernel)
theorem d_6_6_0 : decode prog_6_method_6_code 0 = .ok (.aload_n 0, 1) := D_42 W_prog_6_method_6_code_0 0 rfl rfl
theorem d_6_6_1 : decode prog_6_method_6_code 1 = .ok (.getfield 11, 3) := D_180 W_prog_6_method_6_code_0 1 rfl rfl rfl
theorem d_6_6_4 : decode prog_6_method_6_code 4 = .ok (.iload_n 1, 1) := D_27 W_prog_6_method_6_code_0 4 rfl rfl
theorem d_6_6_5 : decode prog_6_method_6_code 5 = .ok (.aaload, 1) := D_50 W_prog_6_method_6_code_0 5 rfl rfl
theorem d_6_6_6 : decode prog_6_method_6_code 6 = .ok (.getfield 90, 3) := D_180 W_prog_6_method_6_code_0 6 rfl rfl rfl
theorem d_6_6_9 : decode prog_6_method_6_code 9 = .ok (.istore 4, 2) := D_54 W_prog_6_method_6_code_0 9 rfl rfl
theorem d_6_6_11 : decode prog_6_method_6_code 11 = .ok (.iload 4, 2) := D_21 W_prog_6_method_6_code_0 11 rfl rfl
theorem d_6_6_13 : decode prog_6_method_6_code 13 = .ok (.ifCond .eq 29, 3) := D_153 W_prog_6_method_6_code_0 13 rfl rfl rfl
theorem d_6_6_16 : decode prog_6_method_6_code 16 = .ok (.iload_n 1, 1) := D_27 W_prog_6_method_6_code_0 16 rfl rfl
theorem d_6_6_17 : decode prog_6_method_6_code 17 = .ok (.ifCond .le 19, 3) := D_158 W_prog_6_method_6_code_0 17 rfl rfl rfl
theorem d_6_6_20 : decode prog_6_method_6_code 20 = .ok (.aload_n 0, 1) := D_42 W_prog_6_method_6_code_0 20 rfl rfl
theorem d_6_6_21 : decode prog_6_method_6_code 21 = .ok (.getfield 11, 3) := D_180 W_prog_6_method_6_code_0 21 rfl rfl rfl
theorem d_6_6_24 : decode prog_6_method_6_code 24 = .ok (.iload_n 1, 1) := D_27 W_prog_6_method_6_code_0 24 rfl rfl
theorem d_6_6_25 : decode prog_6_method_6_code 25 = .ok (.iconst 1, 1) := D_4 W_prog_6_method_6_code_0 25 rfl rfl
theorem d_6_6_26 : decode prog_6_method_6_code 26 = .ok (.isub, 1) := D_100 W_prog_6_method_6_code_0 26 rfl rfl
theorem d_6_6_27 : decode prog_6_method_6_code 27 = .ok (.aaload, 1) := D_50 W_prog_6_method_6_code_0 27 rfl rfl
theorem d_6_6_28 : decode prog_6_method_6_code 28 = .ok (.getfield 90, 3) := D_180 W_prog_6_method_6_code_0 28 rfl rfl rfl
theorem d_6_6_31 : decode prog_6_method_6_code 31 = .ok (.iload 4, 2) := D_21 W_prog_6_method_6_code_0 31 rfl rfl
theorem W_prog_6_method_6_code_32 : chW prog_6_method_6_code 32 [4, 159, 0, 9, 32, 9, 148, 157, 0, 5, 4, 172, 42, 180, 0, 11, 27, 50, 180, 0, 84, 55, 5, 22, 5, 55, 7, 27, 54, 9, 21, 9, 42, 180, 0, 31] := chW_of (by decide +kernel)
theorem d_6_6_33 : decode prog_6_method_6_code 33 = .ok (.if_icmp .eq 9, 3) := D_159 W_prog_6_method_6_code_32 1 rfl rfl rfl
theorem d_6_6_36 : decode prog_6_method_6_code 36 = .ok (.lload_n 2, 1) := D_32 W_prog_6_method_6_code_32 4 rfl rfl
theorem d_6_6_37 : decode prog_6_method_6_code 37 = .ok (.lconst 0, 1) := D_9 W_prog_6_method_6_code_32 5 rfl rfl
theorem d_6_6_38 : decode prog_6_method_6_code 38 = .ok (.lcmp, 1) := D_148 W_prog_6_method_6_code_32 6 rfl rfl
theorem d_6_6_39 : decode prog_6_method_6_code 39 = .ok (.ifCond .gt 5, 3) := D_157 W_prog_6_method_6_code_32 7 rfl rfl rfl
theorem d_6_6_44 : decode prog_6_method_6_code 44 = .ok (.aload_n 0, 1) := D_42 W_prog_6_method_6_code_32 12 rfl rfl
theorem d_6_6_45 : decode prog_6_method_6_code 45 = .ok (.getfield 11, 3) := D_180 W_prog_6_method_6_code_32 13 rfl rfl rfl
theorem d_6_6_48 : decode prog_6_method_6_code 48 = .ok (.iload_n 1, 1) := D_27 W_prog_6_method_6_code_32 16 rfl rfl
theorem d_6_6_49 : decode prog_6_method_6_code 49 = .ok (.aaload, 1) := D_50 W_prog_6_method_6_code_32 17 rfl rfl
theorem d_6_6_50 : decode prog_6_method_6_code 50 = .ok (.getfield 84, 3) := D_180 W_prog_6_method_6_code_32 18 rfl rfl rfl
theorem d_6_6_53 : decode prog_6_method_6_code 53 = .ok (.lstore 5, 2) := D_55 W_prog_6_method_6_code_32 21 rfl rfl
theorem d_6_6_55 : decode prog_6_method_6_code 55 = .ok (.lload 5, 2) := D_22 W_prog_6_method_6_code_32 23 rfl rfl
theorem d_6_6_57 : decode prog_6_method_6_code 57 = .ok (.lstore 7, 2) := D_55 W_prog_6_method_6_code_32 25 rfl rfl
theorem d_6_6_59 : decode prog_6_method_6_code 59 = .ok (.iload_n 1, 1) := D_27 W_prog_6_method_6_code_32 27 rfl rfl
theorem d_6_6_60 : decode prog_6_method_6_code 60 = .ok (.istore 9, 2) := D_54 W_prog_6_method_6_code_32 28 rfl rfl
theorem d_6_6_42 : decode prog_6_method_6_code 42 = .ok (.iconst 1, 1) := D_4 W_prog_6_method_6_code_32 10 rfl rfl
theorem d_6_6_43 : decode prog_6_method_6_code 43 = .ok (.ireturn, 1) := D_172 W_prog_6_method_6_code_32 11 rfl rfl
theorem d_6_6_62 : decode prog_6_method_6_code 62 = .ok (.iload 9, 2) := D_21 W_prog_6_method_6_code_32 30 rfl rfl
theorem W_prog_6_method_6_code_64 : chW prog_6_method_6_code 64 [42, 180, 0, 31, 162, 0, 39, 42, 180, 0, 11, 21, 9, 50, 180, 0, 90, 21, 4, 160, 0, 24, 22, 7, 42, 180, 0, 11, 21, 9, 50, 180, 0, 87, 97, 55] := chW_of (by decide +kernel)
theorem d_6_6_64 : decode prog_6_method_6_code 64 = .ok (.aload_n 0, 1) := D_42 W_prog_6_method_6_code_64 0 rfl rfl
theorem d_6_6_65 : decode prog_6_method_6_code 65 = .ok (.getfield 31, 3) := D_180 W_prog_6_method_6_code_64 1 rfl rfl rfl
theorem d_6_6_68 : decode prog_6_method_6_code 68 = .ok (.if_icmp .ge 39, 3) := D_162 W_prog_6_method_6_code_64 4 rfl rfl rfl
theorem d_6_6_71 : decode prog_6_method_6_code 71 = .ok (.aload_n 0, 1) := D_42 W_prog_6_method_6_code_64 7 rfl rfl
theorem d_6_6_72 : decode prog_6_method_6_code 72 = .ok (.getfield 11, 3) := D_180 W_prog_6_method_6_code_64 8 rfl rfl rfl
theorem d_6_6_75 : decode prog_6_method_6_code 75 = .ok (.iload 9, 2) := D_21 W_prog_6_method_6_code_64 11 rfl rfl
theorem d_6_6_77 : decode prog_6_method_6_code 77 = .ok (.aaload, 1) := D_50 W_prog_6_method_6_code_64 13 rfl rfl
