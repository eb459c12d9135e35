theorem k_1_191 : (Jvm.Cond.fieldLink "StaveHouse$Walker" (28 : Nat) "StaveHouse$Walker" "part" "LStaveHouse$Part;") ∈ wAll := wA_1 (j := 191) rfl rfl
theorem k_1_194 : (Jvm.Cond.fieldLink "StaveHouse$Walker" (39 : Nat) "StaveHouse$Walker" "loud" "I") ∈ wAll := wA_1 (j := 194) rfl rfl
theorem k_1_196 : (Jvm.Cond.fieldLink "StaveHouse$Walker" (45 : Nat) "StaveHouse$Walker" "brackets" "I") ∈ wAll := wA_1 (j := 196) rfl rfl
theorem k_1_197 : (Jvm.Cond.fieldLink "StaveHouse$Walker" (48 : Nat) "StaveHouse$Walker" "bracket" "I") ∈ wAll := wA_1 (j := 197) rfl rfl
theorem k_1_198 : (Jvm.Cond.fieldLink "StaveHouse$Walker" (51 : Nat) "StaveHouse$Walker" "bracketPlace" "I") ∈ wAll := wA_1 (j := 198) rfl rfl
theorem k_1_199 : (Jvm.Cond.fieldLink "StaveHouse$Walker" (54 : Nat) "StaveHouse$Walker" "tupletFirst" "I") ∈ wAll := wA_1 (j := 199) rfl rfl
theorem k_1_200 : (Jvm.Cond.fieldLink "StaveHouse$Walker" (57 : Nat) "StaveHouse$Walker" "tupletSecond" "I") ∈ wAll := wA_1 (j := 200) rfl rfl
theorem k_1_201 : (Jvm.Cond.fieldLink "StaveHouse$Walker" (60 : Nat) "StaveHouse$Walker" "come" "J") ∈ wAll := wA_1 (j := 201) rfl rfl
theorem k_1_109 : (Jvm.Cond.fieldLink "StaveHouse$Walker" (95 : Nat) "StaveHouse$Parser" "place" "[I") ∈ wAll := wA_1 (j := 109) rfl rfl
theorem k_1_111 : (Jvm.Cond.fieldLink "StaveHouse$Walker" (117 : Nat) "StaveHouse$Parser" "first" "[I") ∈ wAll := wA_1 (j := 111) rfl rfl
theorem k_1_113 : (Jvm.Cond.fieldLink "StaveHouse$Walker" (136 : Nat) "StaveHouse$Parser" "second" "[I") ∈ wAll := wA_1 (j := 113) rfl rfl
theorem k_4_139 : (Jvm.Cond.fieldLink "StaveHouse$Walker" (139 : Nat) "StaveHouse$Part" "eventCount" "I") ∈ wAll := wA_4 (j := 139) rfl rfl
theorem k_5_31 : (Jvm.Cond.methodLink "StaveHouse$Part" (55 : Nat) ({ cls := "StaveHouse$Piece", name := "barLength", desc := "()J" } : Jvm.MethodName)) ∈ wAll := wA_5 (j := 31) rfl rfl
theorem k_5_58 : (Jvm.Cond.static ({ cls := "java/lang/Math", name := "min", desc := "(JJ)J" } : Jvm.MethodName)) ∈ wAll := wA_5 (j := 58) rfl rfl
theorem k_5_59 : (Jvm.Cond.code ({ cls := "java/lang/Math", name := "min", desc := "(JJ)J" } : Jvm.MethodName) prog_20_method_70_code (4 : Nat) (Option.some Jvm.ClassFile.FieldType.long)) ∈ wAll := wA_5 (j := 59) rfl rfl
theorem k_2_28 : (Jvm.Cond.fieldLink "StaveHouse$Part" (172 : Nat) "StaveHouse$Event" "value" "I") ∈ wAll := wA_2 (j := 28) rfl rfl
theorem k_5_76 : (Jvm.Cond.constantLong "StaveHouse$Part" (157 : Nat) (1587600 : Int64)) ∈ wAll := wA_5 (j := 76) rfl rfl
theorem k_2_210 : (Jvm.Cond.fieldLink "StaveHouse$Part" (159 : Nat) "StaveHouse$Piece" "above" "I") ∈ wAll := wA_2 (j := 210) rfl rfl
theorem k_2_215 : (Jvm.Cond.fieldLink "StaveHouse$Part" (162 : Nat) "StaveHouse$Piece" "below" "I") ∈ wAll := wA_2 (j := 215) rfl rfl
theorem k_8_62 : (Jvm.Cond.constantLong "StaveHouse$SoundFile" (94 : Nat) (256 : Int64)) ∈ wAll := wA_8 (j := 62) rfl rfl
theorem k_1_7 : (Jvm.Cond.initialized "StaveHouse$Scribe") ∈ wAll := wA_1 (j := 7) rfl rfl
theorem k_2_50 : (Jvm.Cond.fieldLink "StaveHouse$Scribe" (115 : Nat) "StaveHouse$Event" "count" "I") ∈ wAll := wA_2 (j := 50) rfl rfl
theorem k_2_106 : (Jvm.Cond.fieldLink "StaveHouse$Scribe" (18 : Nat) "StaveHouse$Scribe" "hasTone" "[Z") ∈ wAll := wA_2 (j := 106) rfl rfl
theorem k_2_218 : (Jvm.Cond.fieldLink "StaveHouse$Parser" (138 : Nat) "StaveHouse$Piece" "tempo" "I") ∈ wAll := wA_2 (j := 218) rfl rfl
theorem k_1_202 : (Jvm.Cond.fieldLink "StaveHouse$Walker" (75 : Nat) "StaveHouse$Walker" "farthest" "J") ∈ wAll := wA_1 (j := 202) rfl rfl
theorem k_4_216 : (Jvm.Cond.methodLink "StaveHouse$Walker" (148 : Nat) ({ cls := "StaveHouse$Walker", name := "slowed", desc := "(I)I" } : Jvm.MethodName)) ∈ wAll := wA_4 (j := 216) rfl rfl
theorem k_4_218 : (Jvm.Cond.instanceMethod ({ cls := "StaveHouse$Walker", name := "slowed", desc := "(I)I" } : Jvm.MethodName)) ∈ wAll := wA_4 (j := 218) rfl rfl
theorem ks_39 : (Jvm.Cond.selects "StaveHouse$Walker" ({ cls := "StaveHouse$Walker", name := "slowed", desc := "(I)I" } : Jvm.MethodName) ({ cls := "StaveHouse$Walker", name := "slowed", desc := "(I)I" } : Jvm.MethodName)) ∈ wAll := wA_s (j := 39) rfl rfl
theorem k_4_219 : (Jvm.Cond.code ({ cls := "StaveHouse$Walker", name := "slowed", desc := "(I)I" } : Jvm.MethodName) prog_13_method_12_code (5 : Nat) (Option.some Jvm.ClassFile.FieldType.int)) ∈ wAll := wA_4 (j := 219) rfl rfl
theorem k_4_222 : (Jvm.Cond.constantLong "StaveHouse$Walker" (152 : Nat) (6350400 : Int64)) ∈ wAll := wA_4 (j := 222) rfl rfl
theorem k_4_134 : (Jvm.Cond.fieldLink "StaveHouse$Walker" (154 : Nat) "StaveHouse$Part" "events" "[LStaveHouse$Event;") ∈ wAll := wA_4 (j := 134) rfl rfl
theorem k_2_27 : (Jvm.Cond.fieldLink "StaveHouse$Walker" (158 : Nat) "StaveHouse$Event" "length" "J") ∈ wAll := wA_2 (j := 27) rfl rfl
theorem k_2_29 : (Jvm.Cond.fieldLink "StaveHouse$Walker" (163 : Nat) "StaveHouse$Event" "value" "I") ∈ wAll := wA_2 (j := 29) rfl rfl
theorem k_2_31 : (Jvm.Cond.fieldLink "StaveHouse$Walker" (166 : Nat) "StaveHouse$Event" "tupletFirst" "I") ∈ wAll := wA_2 (j := 31) rfl rfl
theorem k_2_33 : (Jvm.Cond.fieldLink "StaveHouse$Walker" (167 : Nat) "StaveHouse$Event" "tupletSecond" "I") ∈ wAll := wA_2 (j := 33) rfl rfl
theorem k_2_35 : (Jvm.Cond.fieldLink "StaveHouse$Walker" (168 : Nat) "StaveHouse$Event" "bracket" "I") ∈ wAll := wA_2 (j := 35) rfl rfl
theorem k_2_37 : (Jvm.Cond.fieldLink "StaveHouse$Walker" (169 : Nat) "StaveHouse$Event" "bracketPlace" "I") ∈ wAll := wA_2 (j := 37) rfl rfl
theorem k_1_121 : (Jvm.Cond.fieldLink "StaveHouse$Walker" (170 : Nat) "StaveHouse$Parser" "marks" "[I") ∈ wAll := wA_1 (j := 121) rfl rfl
theorem k_2_41 : (Jvm.Cond.fieldLink "StaveHouse$Walker" (173 : Nat) "StaveHouse$Event" "marks" "I") ∈ wAll := wA_2 (j := 41) rfl rfl
theorem k_2_44 : (Jvm.Cond.fieldLink "StaveHouse$Walker" (175 : Nat) "StaveHouse$Event" "loud" "I") ∈ wAll := wA_2 (j := 44) rfl rfl
theorem k_2_47 : (Jvm.Cond.fieldLink "StaveHouse$Walker" (176 : Nat) "StaveHouse$Event" "token" "I") ∈ wAll := wA_2 (j := 47) rfl rfl
theorem k_2_53 : (Jvm.Cond.fieldLink "StaveHouse$Walker" (179 : Nat) "StaveHouse$Event" "count" "I") ∈ wAll := wA_2 (j := 53) rfl rfl
theorem k_1_119 : (Jvm.Cond.fieldLink "StaveHouse$Walker" (182 : Nat) "StaveHouse$Parser" "count" "[I") ∈ wAll := wA_1 (j := 119) rfl rfl
theorem k_5_108 : (Jvm.Cond.methodLink "StaveHouse$Part" (194 : Nat) ({ cls := "StaveHouse$Part", name := "continues", desc := "(I)Z" } : Jvm.MethodName)) ∈ wAll := wA_5 (j := 108) rfl rfl
theorem k_5_110 : (Jvm.Cond.instanceMethod ({ cls := "StaveHouse$Part", name := "continues", desc := "(I)Z" } : Jvm.MethodName)) ∈ wAll := wA_5 (j := 110) rfl rfl
theorem ks_55 : (Jvm.Cond.selects "StaveHouse$Part" ({ cls := "StaveHouse$Part", name := "continues", desc := "(I)Z" } : Jvm.MethodName) ({ cls := "StaveHouse$Part", name := "continues", desc := "(I)Z" } : Jvm.MethodName)) ∈ wAll := wA_s (j := 55) rfl rfl
theorem k_5_111 : (Jvm.Cond.code ({ cls := "StaveHouse$Part", name := "continues", desc := "(I)Z" } : Jvm.MethodName) prog_6_method_15_code (2 : Nat) (Option.some Jvm.ClassFile.FieldType.boolean)) ∈ wAll := wA_5 (j := 111) rfl rfl
theorem k_8_49 : (Jvm.Cond.methodLink "StaveHouse$SoundFile" (90 : Nat) ({ cls := "StaveHouse$SoundFile", name := "take", desc := "()I" } : Jvm.MethodName)) ∈ wAll := wA_8 (j := 49) rfl rfl
theorem k_8_51 : (Jvm.Cond.instanceMethod ({ cls := "StaveHouse$SoundFile", name := "take", desc := "()I" } : Jvm.MethodName)) ∈ wAll := wA_8 (j := 51) rfl rfl
theorem ks_95 : (Jvm.Cond.selects "StaveHouse$SoundFile" ({ cls := "StaveHouse$SoundFile", name := "take", desc := "()I" } : Jvm.MethodName) ({ cls := "StaveHouse$SoundFile", name := "take", desc := "()I" } : Jvm.MethodName)) ∈ wAll := wA_s (j := 95) rfl rfl
theorem k_8_52 : (Jvm.Cond.code ({ cls := "StaveHouse$SoundFile", name := "take", desc := "()I" } : Jvm.MethodName) prog_10_method_5_code (1 : Nat) (Option.some Jvm.ClassFile.FieldType.int)) ∈ wAll := wA_8 (j := 52) rfl rfl
theorem k_8_58 : (Jvm.Cond.methodLink "StaveHouse$SoundFile" (54 : Nat) ({ cls := "StaveHouse$SoundFile", name := "takeWide", desc := "(I)J" } : Jvm.MethodName)) ∈ wAll := wA_8 (j := 58) rfl rfl
theorem k_8_60 : (Jvm.Cond.instanceMethod ({ cls := "StaveHouse$SoundFile", name := "takeWide", desc := "(I)J" } : Jvm.MethodName)) ∈ wAll := wA_8 (j := 60) rfl rfl
theorem ks_97 : (Jvm.Cond.selects "StaveHouse$SoundFile" ({ cls := "StaveHouse$SoundFile", name := "takeWide", desc := "(I)J" } : Jvm.MethodName) ({ cls := "StaveHouse$SoundFile", name := "takeWide", desc := "(I)J" } : Jvm.MethodName)) ∈ wAll := wA_s (j := 97) rfl rfl
theorem k_8_61 : (Jvm.Cond.code ({ cls := "StaveHouse$SoundFile", name := "takeWide", desc := "(I)J" } : Jvm.MethodName) prog_10_method_7_code (5 : Nat) (Option.some Jvm.ClassFile.FieldType.long)) ∈ wAll := wA_8 (j := 61) rfl rfl
theorem k_8_92 : (Jvm.Cond.methodLink "StaveHouse$SoundFile" (142 : Nat) ({ cls := "StaveHouse$SoundFile", name := "takeData", desc := "()I" } : Jvm.MethodName)) ∈ wAll := wA_8 (j := 92) rfl rfl
theorem k_8_94 : (Jvm.Cond.instanceMethod ({ cls := "StaveHouse$SoundFile", name := "takeData", desc := "()I" } : Jvm.MethodName)) ∈ wAll := wA_8 (j := 94) rfl rfl
theorem ks_104 : (Jvm.Cond.selects "StaveHouse$SoundFile" ({ cls := "StaveHouse$SoundFile", name := "takeData", desc := "()I" } : Jvm.MethodName) ({ cls := "StaveHouse$SoundFile", name := "takeData", desc := "()I" } : Jvm.MethodName)) ∈ wAll := wA_s (j := 104) rfl rfl
theorem k_8_95 : (Jvm.Cond.code ({ cls := "StaveHouse$SoundFile", name := "takeData", desc := "()I" } : Jvm.MethodName) prog_10_method_10_code (2 : Nat) (Option.some Jvm.ClassFile.FieldType.int)) ∈ wAll := wA_8 (j := 95) rfl rfl
theorem k_8_117 : (Jvm.Cond.methodLink "StaveHouse$SoundFile" (149 : Nat) ({ cls := "StaveHouse$SoundFile", name := "beginSound", desc := "(III)V" } : Jvm.MethodName)) ∈ wAll := wA_8 (j := 117) rfl rfl
theorem k_8_119 : (Jvm.Cond.instanceMethod ({ cls := "StaveHouse$SoundFile", name := "beginSound", desc := "(III)V" } : Jvm.MethodName)) ∈ wAll := wA_8 (j := 119) rfl rfl
theorem ks_109 : (Jvm.Cond.selects "StaveHouse$SoundFile" ({ cls := "StaveHouse$SoundFile", name := "beginSound", desc := "(III)V" } : Jvm.MethodName) ({ cls := "StaveHouse$SoundFile", name := "beginSound", desc := "(III)V" } : Jvm.MethodName)) ∈ wAll := wA_s (j := 109) rfl rfl
theorem k_8_120 : (Jvm.Cond.code ({ cls := "StaveHouse$SoundFile", name := "beginSound", desc := "(III)V" } : Jvm.MethodName) prog_10_method_16_code (4 : Nat) (Option.none : Option Jvm.ClassFile.FieldType)) ∈ wAll := wA_8 (j := 120) rfl rfl
theorem k_8_122 : (Jvm.Cond.methodLink "StaveHouse$SoundFile" (152 : Nat) ({ cls := "StaveHouse$SoundFile", name := "endSound", desc := "(II)V" } : Jvm.MethodName)) ∈ wAll := wA_8 (j := 122) rfl rfl
theorem k_8_124 : (Jvm.Cond.instanceMethod ({ cls := "StaveHouse$SoundFile", name := "endSound", desc := "(II)V" } : Jvm.MethodName)) ∈ wAll := wA_8 (j := 124) rfl rfl
theorem ks_110 : (Jvm.Cond.selects "StaveHouse$SoundFile" ({ cls := "StaveHouse$SoundFile", name := "endSound", desc := "(II)V" } : Jvm.MethodName) ({ cls := "StaveHouse$SoundFile", name := "endSound", desc := "(II)V" } : Jvm.MethodName)) ∈ wAll := wA_s (j := 110) rfl rfl
theorem k_8_125 : (Jvm.Cond.code ({ cls := "StaveHouse$SoundFile", name := "endSound", desc := "(II)V" } : Jvm.MethodName) prog_10_method_17_code (5 : Nat) (Option.none : Option Jvm.ClassFile.FieldType)) ∈ wAll := wA_8 (j := 125) rfl rfl
theorem k_2_105 : (Jvm.Cond.fieldLink "StaveHouse$Scribe" (91 : Nat) "StaveHouse$Scribe" "next" "I") ∈ wAll := wA_2 (j := 105) rfl rfl
theorem k_8_156 : (Jvm.Cond.methodLink "StaveHouse$Scribe" (105 : Nat) ({ cls := "StaveHouse$Scribe", name := "gridPlace", desc := "(J)J" } : Jvm.MethodName)) ∈ wAll := wA_8 (j := 156) rfl rfl
theorem k_8_158 : (Jvm.Cond.instanceMethod ({ cls := "StaveHouse$Scribe", name := "gridPlace", desc := "(J)J" } : Jvm.MethodName)) ∈ wAll := wA_8 (j := 158) rfl rfl
theorem ks_114 : (Jvm.Cond.selects "StaveHouse$Scribe" ({ cls := "StaveHouse$Scribe", name := "gridPlace", desc := "(J)J" } : Jvm.MethodName) ({ cls := "StaveHouse$Scribe", name := "gridPlace", desc := "(J)J" } : Jvm.MethodName)) ∈ wAll := wA_s (j := 114) rfl rfl
theorem k_8_159 : (Jvm.Cond.code ({ cls := "StaveHouse$Scribe", name := "gridPlace", desc := "(J)J" } : Jvm.MethodName) prog_9_method_4_code (5 : Nat) (Option.some Jvm.ClassFile.FieldType.long)) ∈ wAll := wA_8 (j := 159) rfl rfl
theorem k_2_103 : (Jvm.Cond.fieldLink "StaveHouse$Scribe" (109 : Nat) "StaveHouse$Scribe" "from" "J") ∈ wAll := wA_2 (j := 103) rfl rfl
theorem k_2_104 : (Jvm.Cond.fieldLink "StaveHouse$Scribe" (98 : Nat) "StaveHouse$Scribe" "to" "J") ∈ wAll := wA_2 (j := 104) rfl rfl
theorem k_8_163 : (Jvm.Cond.methodLink "StaveHouse$Scribe" (102 : Nat) ({ cls := "java/lang/Math", name := "max", desc := "(JJ)J" } : Jvm.MethodName)) ∈ wAll := wA_8 (j := 163) rfl rfl
theorem k_8_164 : (Jvm.Cond.methodLink "StaveHouse$Scribe" (112 : Nat) ({ cls := "java/lang/Math", name := "min", desc := "(JJ)J" } : Jvm.MethodName)) ∈ wAll := wA_8 (j := 164) rfl rfl
theorem k_5_88 : (Jvm.Cond.code ({ cls := "StaveHouse", name := "nextValue", desc := "(IIII)I" } : Jvm.MethodName) prog_1_method_42_code (11 : Nat) (Option.some Jvm.ClassFile.FieldType.int)) ∈ wAll := wA_5 (j := 88) rfl rfl
theorem k_5_87 : (Jvm.Cond.static ({ cls := "StaveHouse", name := "nextValue", desc := "(IIII)I" } : Jvm.MethodName)) ∈ wAll := wA_5 (j := 87) rfl rfl
theorem k_8_226 : (Jvm.Cond.methodLink "StaveHouse$Scribe" (116 : Nat) ({ cls := "StaveHouse$Scribe", name := "spell", desc := "(I)V" } : Jvm.MethodName)) ∈ wAll := wA_8 (j := 226) rfl rfl
theorem k_8_228 : (Jvm.Cond.instanceMethod ({ cls := "StaveHouse$Scribe", name := "spell", desc := "(I)V" } : Jvm.MethodName)) ∈ wAll := wA_8 (j := 228) rfl rfl
theorem ks_122 : (Jvm.Cond.selects "StaveHouse$Scribe" ({ cls := "StaveHouse$Scribe", name := "spell", desc := "(I)V" } : Jvm.MethodName) ({ cls := "StaveHouse$Scribe", name := "spell", desc := "(I)V" } : Jvm.MethodName)) ∈ wAll := wA_s (j := 122) rfl rfl
theorem k_8_229 : (Jvm.Cond.code ({ cls := "StaveHouse$Scribe", name := "spell", desc := "(I)V" } : Jvm.MethodName) prog_9_method_8_code (7 : Nat) (Option.none : Option Jvm.ClassFile.FieldType)) ∈ wAll := wA_8 (j := 229) rfl rfl
theorem k_9_19 : (Jvm.Cond.methodLink "StaveHouse$Performance" (304 : Nat) ({ cls := "StaveHouse$Performance", name := "rise", desc := "(I)I" } : Jvm.MethodName)) ∈ wAll := wA_9 (j := 19) rfl rfl
theorem k_9_20 : (Jvm.Cond.static ({ cls := "StaveHouse$Performance", name := "rise", desc := "(I)I" } : Jvm.MethodName)) ∈ wAll := wA_9 (j := 20) rfl rfl
theorem k_9_21 : (Jvm.Cond.code ({ cls := "StaveHouse$Performance", name := "rise", desc := "(I)I" } : Jvm.MethodName) prog_7_method_28_code (1 : Nat) (Option.some Jvm.ClassFile.FieldType.int)) ∈ wAll := wA_9 (j := 21) rfl rfl
theorem k_9_57 : (Jvm.Cond.methodLink "StaveHouse$Study" (150 : Nat) ({ cls := "StaveHouse$Study", name := "alterationOf", desc := "(I)I" } : Jvm.MethodName)) ∈ wAll := wA_9 (j := 57) rfl rfl
theorem k_9_59 : (Jvm.Cond.instanceMethod ({ cls := "StaveHouse$Study", name := "alterationOf", desc := "(I)I" } : Jvm.MethodName)) ∈ wAll := wA_9 (j := 59) rfl rfl
theorem ks_128 : (Jvm.Cond.selects "StaveHouse$Study" ({ cls := "StaveHouse$Study", name := "alterationOf", desc := "(I)I" } : Jvm.MethodName) ({ cls := "StaveHouse$Study", name := "alterationOf", desc := "(I)I" } : Jvm.MethodName)) ∈ wAll := wA_s (j := 128) rfl rfl
theorem k_9_60 : (Jvm.Cond.code ({ cls := "StaveHouse$Study", name := "alterationOf", desc := "(I)I" } : Jvm.MethodName) prog_11_method_14_code (2 : Nat) (Option.some Jvm.ClassFile.FieldType.int)) ∈ wAll := wA_9 (j := 60) rfl rfl
theorem k_6_26 : (Jvm.Cond.methodLink "StaveHouse$Study" (107 : Nat) ({ cls := "StaveHouse$Event", name := "tone", desc := "(I)I" } : Jvm.MethodName)) ∈ wAll := wA_6 (j := 26) rfl rfl
theorem k_3_81 : (Jvm.Cond.methodLink "java/lang/String" (505 : Nat) ({ cls := "java/lang/String", name := "length", desc := "()I" } : Jvm.MethodName)) ∈ wAll := wA_3 (j := 81) rfl rfl
theorem k_3_89 : (Jvm.Cond.methodLink "java/lang/String" (637 : Nat) ({ cls := "java/lang/StringLatin1", name := "indexOf", desc := "([BIII)I" } : Jvm.MethodName)) ∈ wAll := wA_3 (j := 89) rfl rfl
theorem k_3_90 : (Jvm.Cond.static ({ cls := "java/lang/StringLatin1", name := "indexOf", desc := "([BIII)I" } : Jvm.MethodName)) ∈ wAll := wA_3 (j := 90) rfl rfl
theorem k_3_91 : (Jvm.Cond.code ({ cls := "java/lang/StringLatin1", name := "indexOf", desc := "([BIII)I" } : Jvm.MethodName) prog_22_method_22_code (4 : Nat) (Option.some Jvm.ClassFile.FieldType.int)) ∈ wAll := wA_3 (j := 91) rfl rfl
theorem k_1_137 : (Jvm.Cond.fieldLink "StaveHouse$Parser" (181 : Nat) "StaveHouse$Parser" "length" "I") ∈ wAll := wA_1 (j := 137) rfl rfl
theorem k_4_19 : (Jvm.Cond.methodLink "StaveHouse$Parser" (296 : Nat) ({ cls := "java/lang/Math", name := "max", desc := "(II)I" } : Jvm.MethodName)) ∈ wAll := wA_4 (j := 19) rfl rfl
theorem k_4_87 : (Jvm.Cond.methodLink "StaveHouse$Parser" (128 : Nat) ({ cls := "StaveHouse$Parser", name := "takeTime", desc := "(LStaveHouse$Piece;)Z" } : Jvm.MethodName)) ∈ wAll := wA_4 (j := 87) rfl rfl
theorem k_4_89 : (Jvm.Cond.instanceMethod ({ cls := "StaveHouse$Parser", name := "takeTime", desc := "(LStaveHouse$Piece;)Z" } : Jvm.MethodName)) ∈ wAll := wA_4 (j := 89) rfl rfl
theorem ks_32 : (Jvm.Cond.selects "StaveHouse$Parser" ({ cls := "StaveHouse$Parser", name := "takeTime", desc := "(LStaveHouse$Piece;)Z" } : Jvm.MethodName) ({ cls := "StaveHouse$Parser", name := "takeTime", desc := "(LStaveHouse$Piece;)Z" } : Jvm.MethodName)) ∈ wAll := wA_s (j := 32) rfl rfl
theorem k_4_90 : (Jvm.Cond.code ({ cls := "StaveHouse$Parser", name := "takeTime", desc := "(LStaveHouse$Piece;)Z" } : Jvm.MethodName) prog_5_method_7_code (2 : Nat) (Option.some Jvm.ClassFile.FieldType.boolean)) ∈ wAll := wA_4 (j := 90) rfl rfl
theorem k_4_81 : (Jvm.Cond.methodLink "StaveHouse$Parser" (125 : Nat) ({ cls := "StaveHouse$Parser", name := "takeKey", desc := "(LStaveHouse$Piece;)Z" } : Jvm.MethodName)) ∈ wAll := wA_4 (j := 81) rfl rfl
theorem k_4_83 : (Jvm.Cond.instanceMethod ({ cls := "StaveHouse$Parser", name := "takeKey", desc := "(LStaveHouse$Piece;)Z" } : Jvm.MethodName)) ∈ wAll := wA_4 (j := 83) rfl rfl
theorem ks_31 : (Jvm.Cond.selects "StaveHouse$Parser" ({ cls := "StaveHouse$Parser", name := "takeKey", desc := "(LStaveHouse$Piece;)Z" } : Jvm.MethodName) ({ cls := "StaveHouse$Parser", name := "takeKey", desc := "(LStaveHouse$Piece;)Z" } : Jvm.MethodName)) ∈ wAll := wA_s (j := 31) rfl rfl
theorem k_4_84 : (Jvm.Cond.code ({ cls := "StaveHouse$Parser", name := "takeKey", desc := "(LStaveHouse$Piece;)Z" } : Jvm.MethodName) prog_5_method_8_code (3 : Nat) (Option.some Jvm.ClassFile.FieldType.boolean)) ∈ wAll := wA_4 (j := 84) rfl rfl
theorem k_4_223 : (Jvm.Cond.methodLink "StaveHouse$Walker" (184 : Nat) ({ cls := "StaveHouse$Walker", name := "addPitch", desc := "(LStaveHouse$Event;I)V" } : Jvm.MethodName)) ∈ wAll := wA_4 (j := 223) rfl rfl
theorem k_4_225 : (Jvm.Cond.instanceMethod ({ cls := "StaveHouse$Walker", name := "addPitch", desc := "(LStaveHouse$Event;I)V" } : Jvm.MethodName)) ∈ wAll := wA_4 (j := 225) rfl rfl
theorem ks_40 : (Jvm.Cond.selects "StaveHouse$Walker" ({ cls := "StaveHouse$Walker", name := "addPitch", desc := "(LStaveHouse$Event;I)V" } : Jvm.MethodName) ({ cls := "StaveHouse$Walker", name := "addPitch", desc := "(LStaveHouse$Event;I)V" } : Jvm.MethodName)) ∈ wAll := wA_s (j := 40) rfl rfl
theorem k_4_226 : (Jvm.Cond.code ({ cls := "StaveHouse$Walker", name := "addPitch", desc := "(LStaveHouse$Event;I)V" } : Jvm.MethodName) prog_13_method_14_code (7 : Nat) (Option.none : Option Jvm.ClassFile.FieldType)) ∈ wAll := wA_4 (j := 226) rfl rfl
theorem k_5_41 : (Jvm.Cond.methodLink "StaveHouse$Part" (95 : Nat) ({ cls := "StaveHouse$Event", name := "sharedWith", desc := "(LStaveHouse$Event;)I" } : Jvm.MethodName)) ∈ wAll := wA_5 (j := 41) rfl rfl
theorem k_5_42 : (Jvm.Cond.instanceMethod ({ cls := "StaveHouse$Event", name := "sharedWith", desc := "(LStaveHouse$Event;)I" } : Jvm.MethodName)) ∈ wAll := wA_5 (j := 42) rfl rfl
theorem k_5_43 : (Jvm.Cond.selects "StaveHouse$Event" ({ cls := "StaveHouse$Event", name := "sharedWith", desc := "(LStaveHouse$Event;)I" } : Jvm.MethodName) ({ cls := "StaveHouse$Event", name := "sharedWith", desc := "(LStaveHouse$Event;)I" } : Jvm.MethodName)) ∈ wAll := wA_5 (j := 43) rfl rfl
theorem k_5_44 : (Jvm.Cond.code ({ cls := "StaveHouse$Event", name := "sharedWith", desc := "(LStaveHouse$Event;)I" } : Jvm.MethodName) prog_3_method_7_code (4 : Nat) (Option.some Jvm.ClassFile.FieldType.int)) ∈ wAll := wA_5 (j := 44) rfl rfl
theorem k_5_71 : (Jvm.Cond.methodLink "StaveHouse$Part" (150 : Nat) ({ cls := "StaveHouse$Part", name := "addNote", desc := "(IIJI)V" } : Jvm.MethodName)) ∈ wAll := wA_5 (j := 71) rfl rfl
theorem k_5_73 : (Jvm.Cond.instanceMethod ({ cls := "StaveHouse$Part", name := "addNote", desc := "(IIJI)V" } : Jvm.MethodName)) ∈ wAll := wA_5 (j := 73) rfl rfl
theorem ks_51 : (Jvm.Cond.selects "StaveHouse$Part" ({ cls := "StaveHouse$Part", name := "addNote", desc := "(IIJI)V" } : Jvm.MethodName) ({ cls := "StaveHouse$Part", name := "addNote", desc := "(IIJI)V" } : Jvm.MethodName)) ∈ wAll := wA_s (j := 51) rfl rfl
theorem k_5_74 : (Jvm.Cond.code ({ cls := "StaveHouse$Part", name := "addNote", desc := "(IIJI)V" } : Jvm.MethodName) prog_6_method_13_code (7 : Nat) (Option.none : Option Jvm.ClassFile.FieldType)) ∈ wAll := wA_5 (j := 74) rfl rfl
theorem k_2_30 : (Jvm.Cond.fieldLink "StaveHouse$Part" (178 : Nat) "StaveHouse$Event" "tupletFirst" "I") ∈ wAll := wA_2 (j := 30) rfl rfl
theorem k_2_32 : (Jvm.Cond.fieldLink "StaveHouse$Part" (185 : Nat) "StaveHouse$Event" "tupletSecond" "I") ∈ wAll := wA_2 (j := 32) rfl rfl
theorem k_5_37 : (Jvm.Cond.methodLink "StaveHouse$Part" (68 : Nat) ({ cls := "StaveHouse$Part", name := "tiedPitches", desc := "(I)I" } : Jvm.MethodName)) ∈ wAll := wA_5 (j := 37) rfl rfl
theorem k_5_38 : (Jvm.Cond.instanceMethod ({ cls := "StaveHouse$Part", name := "tiedPitches", desc := "(I)I" } : Jvm.MethodName)) ∈ wAll := wA_5 (j := 38) rfl rfl
theorem k_5_39 : (Jvm.Cond.selects "StaveHouse$Part" ({ cls := "StaveHouse$Part", name := "tiedPitches", desc := "(I)I" } : Jvm.MethodName) ({ cls := "StaveHouse$Part", name := "tiedPitches", desc := "(I)I" } : Jvm.MethodName)) ∈ wAll := wA_5 (j := 39) rfl rfl
theorem k_5_40 : (Jvm.Cond.code ({ cls := "StaveHouse$Part", name := "tiedPitches", desc := "(I)I" } : Jvm.MethodName) prog_6_method_7_code (2 : Nat) (Option.some Jvm.ClassFile.FieldType.int)) ∈ wAll := wA_5 (j := 40) rfl rfl
theorem W_prog_21_method_80_code_0 : chW prog_21_method_80_code 0 [42, 182, 1, 236, 153, 0, 19, 42, 180, 0, 9, 27, 28, 42, 182, 1, 249, 184, 2, 125, 167, 0, 16, 42, 180, 0, 9, 27, 28, 42, 182, 1, 249, 184, 2, 128] := chW_of (by decide +kernel)
theorem W_prog_5_method_26_code_0 : chW prog_5_method_26_code 0 [42, 180, 0, 48, 182, 0, 122, 42, 4, 16, 32, 4, 182, 0, 131, 154, 0, 5, 3, 172, 17, 0, 128, 42, 180, 0, 135, 4, 184, 1, 40, 108, 60, 3, 61, 3] := chW_of (by decide +kernel)
theorem W_prog_5_method_6_code_0 : chW prog_5_method_6_code 0 [42, 182, 0, 112, 61, 42, 89, 180, 0, 69, 28, 128, 181, 0, 69, 42, 180, 0, 48, 182, 0, 122, 28, 4, 160, 0, 9, 42, 43, 182, 0, 125, 172, 28, 5, 160] := chW_of (by decide +kernel)
theorem W_prog_5_method_6_code_32 : chW prog_5_method_6_code 32 [172, 28, 5, 160, 0, 9, 42, 43, 182, 0, 128, 172, 42, 16, 20, 17, 1, 44, 3, 182, 0, 131, 154, 0, 5, 3, 172, 43, 42, 180, 0, 135, 181, 0, 138, 4] := chW_of (by decide +kernel)
theorem W_prog_13_method_13_code_0 : chW prog_13_method_13_code 0 [42, 180, 0, 24, 180, 0, 95, 27, 46, 61, 42, 180, 0, 45, 5, 164, 0, 7, 2, 167, 0, 16, 42, 42, 180, 0, 24, 180, 0, 117, 27, 46, 182, 0, 148, 62] := chW_of (by decide +kernel)
theorem W_prog_13_method_13_code_32 : chW prog_13_method_13_code 32 [182, 0, 148, 62, 29, 2, 159, 0, 11, 42, 180, 0, 54, 4, 162, 0, 11, 42, 16, 12, 28, 182, 0, 108, 177, 20, 0, 152, 29, 133, 105, 42, 180, 0, 54, 133] := chW_of (by decide +kernel)
theorem W_prog_6_method_7_code_0 : chW prog_6_method_7_code 0 [27, 155, 0, 26, 27, 4, 96, 42, 180, 0, 31, 162, 0, 16, 42, 180, 0, 11, 27, 50, 4, 182, 0, 45, 154, 0, 5, 3, 172, 42, 180, 0, 11, 27, 50, 42] := chW_of (by decide +kernel)
theorem W_prog_6_method_7_code_32 : chW prog_6_method_7_code 32 [11, 27, 50, 42, 180, 0, 11, 27, 4, 96, 50, 182, 0, 95, 172] := chW_of (by decide +kernel)
theorem W_prog_6_method_12_code_0 : chW prog_6_method_12_code 0 [42, 180, 0, 11, 27, 50, 58, 5, 33, 55, 6, 25, 5, 180, 0, 172, 7, 104, 54, 8, 3, 54, 9, 21, 9, 17, 3, 32, 162, 0, 81, 21, 8, 158, 0, 76] := chW_of (by decide +kernel)
theorem W_prog_6_method_12_code_32 : chW prog_6_method_12_code 32 [8, 158, 0, 76, 42, 180, 0, 81, 154, 0, 69, 21, 8, 184, 0, 175, 54, 10, 42, 27, 28, 22, 6, 21, 10, 182, 0, 150, 21, 8, 21, 10, 184, 0, 169, 100] := chW_of (by decide +kernel)
theorem W_prog_6_method_11_code_0 : chW prog_6_method_11_code 0 [20, 0, 157, 55, 7, 43, 182, 0, 55, 55, 9, 33, 22, 9, 109, 136, 54, 11, 33, 21, 11, 133, 22, 9, 105, 101, 22, 7, 109, 136, 54, 12, 22, 5, 22, 7] := chW_of (by decide +kernel)
theorem W_prog_6_method_11_code_32 : chW prog_6_method_11_code 32 [22, 5, 22, 7, 109, 136, 54, 13, 3, 54, 14, 21, 14, 17, 3, 32, 162, 0, 73, 21, 13, 158, 0, 68, 42, 180, 0, 81, 154, 0, 61, 43, 180, 0, 159, 43] := chW_of (by decide +kernel)
theorem W_prog_6_method_11_code_64 : chW prog_6_method_11_code 64 [180, 0, 159, 43, 180, 0, 162, 21, 12, 21, 13, 184, 0, 165, 54, 15, 42, 28, 21, 11, 21, 12, 133, 22, 7, 105, 21, 15, 182, 0, 150, 21, 12, 21, 15, 184] := chW_of (by decide +kernel)
theorem W_prog_6_method_16_code_0 : chW prog_6_method_16_code 0 [3, 60, 27, 42, 180, 0, 35, 162, 0, 88, 42, 180, 0, 19, 3, 50, 27, 46, 61, 42, 27, 182, 0, 191, 153, 0, 16, 42, 180, 0, 19, 16, 6, 50, 27, 3] := chW_of (by decide +kernel)
theorem W_prog_6_method_16_code_64 : chW prog_6_method_16_code 64 [50, 180, 0, 188, 120, 4, 100, 79, 167, 0, 17, 42, 180, 0, 19, 16, 6, 50, 27, 42, 28, 182, 0, 68, 79, 132, 1, 1, 167, 255, 166, 177] := chW_of (by decide +kernel)
theorem W_prog_10_method_7_code_0 : chW prog_10_method_7_code 0 [9, 65, 3, 54, 4, 21, 4, 27, 162, 0, 21, 32, 20, 0, 94, 105, 42, 182, 0, 90, 133, 97, 65, 132, 4, 1, 167, 255, 235, 32, 173] := chW_of (by decide +kernel)
theorem W_prog_10_method_8_code_0 : chW prog_10_method_8_code 0 [42, 180, 0, 27, 54, 6, 42, 27, 182, 0, 54, 55, 7, 22, 7, 32, 148, 155, 0, 11, 22, 7, 22, 4, 148, 158, 0, 12, 42, 6, 21, 6, 182, 0, 83, 3] := chW_of (by decide +kernel)
theorem W_prog_10_method_9_code_0 : chW prog_10_method_9_code 0 [3, 60, 3, 61, 28, 7, 162, 0, 35, 42, 182, 0, 90, 62, 27, 17, 0, 128, 104, 29, 17, 0, 128, 112, 96, 60, 29, 17, 0, 128, 162, 0, 5, 27, 172, 132] := chW_of (by decide +kernel)
theorem W_prog_10_method_9_code_32 : chW prog_10_method_9_code 32 [5, 27, 172, 132, 2, 1, 167, 255, 222, 42, 4, 42, 180, 0, 27, 4, 100, 182, 0, 83, 3, 172] := chW_of (by decide +kernel)
theorem W_prog_10_method_10_code_0 : chW prog_10_method_10_code 0 [42, 182, 0, 90, 60, 27, 17, 0, 128, 161, 0, 14, 42, 4, 42, 180, 0, 27, 4, 100, 182, 0, 83, 27, 172] := chW_of (by decide +kernel)
theorem W_prog_10_method_15_code_0 : chW prog_10_method_15_code 0 [42, 180, 0, 120, 16, 16, 108, 54, 4, 21, 4, 16, 12, 159, 0, 10, 21, 4, 16, 13, 160, 0, 43, 42, 180, 0, 39, 154, 0, 35, 21, 4, 16, 12, 160, 0] := chW_of (by decide +kernel)
theorem W_prog_10_method_15_code_32 : chW prog_10_method_15_code 32 [16, 12, 160, 0, 28, 42, 180, 0, 20, 42, 180, 0, 51, 46, 2, 160, 0, 15, 42, 180, 0, 20, 42, 180, 0, 51, 27, 7, 112, 79, 177, 42, 182, 0, 142, 54] := chW_of (by decide +kernel)
theorem W_prog_10_method_15_code_64 : chW prog_10_method_15_code 64 [182, 0, 142, 54, 5, 42, 180, 0, 39, 153, 0, 4, 177, 21, 4, 16, 9, 160, 0, 19, 21, 5, 158, 0, 14, 42, 27, 21, 5, 28, 182, 0, 149, 167, 0, 23] := chW_of (by decide +kernel)
theorem W_prog_9_method_6_code_0 : chW prog_9_method_6_code 0 [42, 42, 42, 180, 0, 22, 180, 0, 81, 7, 50, 27, 47, 182, 0, 105, 181, 0, 109, 42, 42, 180, 0, 109, 10, 97, 181, 0, 98, 42, 27, 181, 0, 91, 3, 62] := chW_of (by decide +kernel)
theorem W_prog_9_method_7_code_0 : chW prog_9_method_7_code 0 [42, 180, 0, 12, 3, 181, 0, 115, 3, 60, 3, 61, 28, 42, 180, 0, 18, 190, 162, 0, 32, 27, 16, 6, 162, 0, 26, 42, 180, 0, 18, 28, 51, 153, 0, 11] := chW_of (by decide +kernel)
theorem W_prog_9_method_7_code_32 : chW prog_9_method_7_code 32 [51, 153, 0, 11, 132, 1, 1, 42, 28, 182, 0, 116, 132, 2, 1, 167, 255, 221, 177] := chW_of (by decide +kernel)
theorem d_9_7_36 : decode prog_9_method_7_code 36 = .ok (.iinc 1 1, 3) := D_132 W_prog_9_method_7_code_32 4 rfl rfl rfl
theorem W_prog_7_method_29_code_0 : chW prog_7_method_29_code 0 [26, 27, 162, 0, 10, 26, 184, 1, 48, 167, 0, 19, 27, 184, 1, 48, 17, 1, 144, 26, 27, 100, 100, 104, 17, 1, 144, 108, 172] := chW_of (by decide +kernel)
theorem W_prog_11_method_16_code_0 : chW prog_11_method_16_code 0 [27, 28, 96, 16, 7, 112, 62, 42, 180, 0, 40, 29, 46, 154, 0, 6, 16, 99, 172, 178, 0, 180, 29, 46, 42, 29, 182, 0, 150, 96, 54, 4, 21, 4, 178, 0] := chW_of (by decide +kernel)
theorem W_prog_11_method_17_code_0 : chW prog_11_method_17_code 0 [17, 3, 232, 62, 3, 54, 4, 3, 54, 5, 21, 5, 43, 180, 0, 58, 162, 0, 90, 42, 43, 21, 5, 28, 182, 0, 98, 58, 6, 3, 54, 7, 25, 6, 198, 0] := chW_of (by decide +kernel)
theorem W_prog_11_method_17_code_96 : chW prog_11_method_17_code 96 [1, 167, 255, 191, 132, 5, 1, 167, 255, 163, 21, 4, 16, 7, 112, 172] := chW_of (by decide +kernel)
theorem W_prog_11_method_17_code_32 : chW prog_11_method_17_code 32 [25, 6, 198, 0, 66, 21, 7, 25, 6, 180, 0, 165, 162, 0, 56, 25, 6, 21, 7, 182, 0, 107, 54, 8, 21, 8, 29, 161, 0, 22, 21, 8, 29, 160, 0, 29] := chW_of (by decide +kernel)
theorem W_prog_5_method_6_code_64 : chW prog_5_method_6_code 64 [181, 0, 138, 4, 172] := chW_of (by decide +kernel)
theorem W_prog_13_method_13_code_64 : chW prog_13_method_13_code 64 [180, 0, 54, 133, 109, 42, 180, 0, 57, 133, 105, 55, 4, 42, 180, 0, 28, 180, 0, 139, 17, 0, 200, 162, 0, 18, 42, 180, 0, 60, 22, 4, 97, 42, 180, 0] := chW_of (by decide +kernel)
theorem W_prog_13_method_13_code_96 : chW prog_13_method_13_code 96 [97, 42, 180, 0, 75, 148, 158, 0, 11, 42, 16, 8, 28, 182, 0, 108, 177, 42, 180, 0, 28, 180, 0, 154, 42, 180, 0, 28, 180, 0, 139, 50, 58, 6, 25, 6] := chW_of (by decide +kernel)
theorem W_prog_13_method_13_code_128 : chW prog_13_method_13_code 128 [58, 6, 25, 6, 22, 4, 181, 0, 158, 25, 6, 29, 181, 0, 163, 25, 6, 42, 180, 0, 54, 181, 0, 166, 25, 6, 42, 180, 0, 57, 181, 0, 167, 25, 6, 42] := chW_of (by decide +kernel)
theorem W_prog_13_method_13_code_160 : chW prog_13_method_13_code 160 [167, 25, 6, 42, 180, 0, 45, 154, 0, 7, 3, 167, 0, 7, 42, 180, 0, 48, 181, 0, 168, 25, 6, 42, 180, 0, 51, 181, 0, 169, 25, 6, 42, 180, 0, 24] := chW_of (by decide +kernel)
theorem W_prog_13_method_13_code_192 : chW prog_13_method_13_code 192 [42, 180, 0, 24, 180, 0, 170, 27, 46, 181, 0, 173, 25, 6, 42, 180, 0, 39, 181, 0, 175, 25, 6, 28, 181, 0, 176, 25, 6, 3, 181, 0, 179, 3, 54, 7] := chW_of (by decide +kernel)
theorem W_prog_13_method_13_code_224 : chW prog_13_method_13_code 224 [179, 3, 54, 7, 21, 7, 42, 180, 0, 24, 180, 0, 182, 27, 46, 162, 0, 34, 42, 180, 0, 32, 154, 0, 27, 42, 25, 6, 42, 180, 0, 24, 180, 0, 136, 27] := chW_of (by decide +kernel)
theorem W_prog_13_method_13_code_256 : chW prog_13_method_13_code 256 [180, 0, 136, 27, 46, 21, 7, 96, 182, 0, 184, 132, 7, 1, 167, 255, 214, 42, 180, 0, 28, 89, 180, 0, 139, 4, 96, 181, 0, 139, 42, 89, 180, 0, 60, 22] := chW_of (by decide +kernel)
theorem W_prog_6_method_16_code_32 : chW prog_6_method_16_code 32 [6, 50, 27, 3, 79, 167, 0, 52, 42, 27, 4, 96, 182, 0, 194, 153, 0, 28, 42, 180, 0, 19, 16, 6, 50, 27, 4, 42, 180, 0, 11, 28, 50, 180, 0, 188] := chW_of (by decide +kernel)
theorem d_10_7_23 : decode prog_10_method_7_code 23 = .ok (.iinc 4 1, 3) := D_132 W_prog_10_method_7_code_0 23 rfl rfl rfl
theorem W_prog_10_method_8_code_32 : chW prog_10_method_8_code 32 [182, 0, 83, 3, 172, 22, 7, 136, 172] := chW_of (by decide +kernel)
theorem d_10_9_35 : decode prog_10_method_9_code 35 = .ok (.iinc 2 1, 3) := D_132 W_prog_10_method_9_code_32 3 rfl rfl rfl
theorem W_prog_10_method_15_code_96 : chW prog_10_method_15_code 96 [149, 167, 0, 23, 21, 4, 16, 8, 159, 0, 10, 21, 4, 16, 9, 160, 0, 9, 42, 27, 29, 182, 0, 152, 177] := chW_of (by decide +kernel)
theorem W_prog_9_method_6_code_32 : chW prog_9_method_6_code 32 [0, 91, 3, 62, 29, 42, 180, 0, 18, 190, 162, 0, 16, 42, 180, 0, 18, 29, 3, 84, 132, 3, 1, 167, 255, 237, 42, 180, 0, 91, 28, 162, 0, 95, 42, 42] := chW_of (by decide +kernel)
theorem d_9_6_52 : decode prog_9_method_6_code 52 = .ok (.iinc 3 1, 3) := D_132 W_prog_9_method_6_code_32 20 rfl rfl rfl
theorem W_prog_9_method_6_code_64 : chW prog_9_method_6_code 64 [0, 95, 42, 42, 180, 0, 22, 180, 0, 81, 7, 50, 42, 180, 0, 91, 47, 182, 0, 105, 42, 180, 0, 109, 148, 154, 0, 69, 42, 42, 180, 0, 98, 42, 42, 180] := chW_of (by decide +kernel)
theorem W_prog_9_method_6_code_96 : chW prog_9_method_6_code 96 [98, 42, 42, 180, 0, 22, 180, 0, 81, 8, 50, 42, 180, 0, 91, 47, 182, 0, 105, 184, 0, 102, 181, 0, 98, 42, 180, 0, 18, 42, 180, 0, 22, 180, 0, 81] := chW_of (by decide +kernel)
theorem W_prog_9_method_6_code_128 : chW prog_9_method_6_code 128 [22, 180, 0, 81, 5, 50, 42, 180, 0, 91, 47, 136, 16, 127, 126, 4, 84, 42, 89, 180, 0, 91, 4, 96, 181, 0, 91, 167, 255, 159, 42, 180, 0, 91, 28, 162] := chW_of (by decide +kernel)
theorem W_prog_9_method_6_code_160 : chW prog_9_method_6_code 160 [0, 91, 28, 162, 0, 32, 42, 42, 180, 0, 98, 42, 42, 180, 0, 22, 180, 0, 81, 7, 50, 42, 180, 0, 91, 47, 182, 0, 105, 184, 0, 112, 181, 0, 98, 177] := chW_of (by decide +kernel)
theorem W_prog_9_method_6_code_192 : chW prog_9_method_6_code 192 [181, 0, 98, 177] := chW_of (by decide +kernel)
theorem d_9_7_44 : decode prog_9_method_7_code 44 = .ok (.iinc 2 1, 3) := D_132 W_prog_9_method_7_code_32 12 rfl rfl rfl
theorem W_prog_11_method_16_code_32 : chW prog_11_method_16_code 32 [21, 4, 178, 0, 180, 27, 46, 100, 42, 27, 182, 0, 150, 100, 16, 12, 184, 0, 130, 172] := chW_of (by decide +kernel)
theorem W_prog_11_method_17_code_64 : chW prog_11_method_17_code 64 [29, 160, 0, 29, 25, 6, 180, 0, 106, 21, 7, 46, 21, 4, 162, 0, 16, 21, 8, 62, 25, 6, 180, 0, 106, 21, 7, 46, 54, 4, 132, 7, 1, 167, 255, 191] := chW_of (by decide +kernel)
theorem d_11_17_94 : decode prog_11_method_17_code 94 = .ok (.iinc 7 1, 3) := D_132 W_prog_11_method_17_code_64 30 rfl rfl rfl
theorem d_11_17_100 : decode prog_11_method_17_code 100 = .ok (.iinc 5 1, 3) := D_132 W_prog_11_method_17_code_96 4 rfl rfl rfl
theorem W_prog_21_method_80_code_32 : chW prog_21_method_80_code 32 [249, 184, 2, 128, 172] := chW_of (by decide +kernel)
theorem W_prog_5_method_26_code_32 : chW prog_5_method_26_code 32 [60, 3, 61, 3, 62, 29, 5, 162, 0, 31, 42, 180, 0, 48, 16, 46, 182, 0, 153, 153, 0, 19, 132, 2, 1, 42, 180, 0, 48, 182, 0, 122, 132, 3, 1, 167] := chW_of (by decide +kernel)
theorem d_5_26_54 : decode prog_5_method_26_code 54 = .ok (.iinc 2 1, 3) := D_132 W_prog_5_method_26_code_32 22 rfl rfl rfl
theorem W_prog_5_method_26_code_64 : chW prog_5_method_26_code 64 [132, 3, 1, 167, 255, 226, 42, 27, 178, 1, 43, 28, 46, 104, 7, 108, 181, 0, 181, 4, 172] := chW_of (by decide +kernel)
theorem d_5_26_64 : decode prog_5_method_26_code 64 = .ok (.iinc 3 1, 3) := D_132 W_prog_5_method_26_code_64 0 rfl rfl rfl
theorem d_13_13_267 : decode prog_13_method_13_code 267 = .ok (.iinc 7 1, 3) := D_132 W_prog_13_method_13_code_256 11 rfl rfl rfl
theorem W_prog_13_method_13_code_288 : chW prog_13_method_13_code 288 [180, 0, 60, 22, 4, 97, 181, 0, 60, 177] := chW_of (by decide +kernel)
theorem W_prog_6_method_12_code_64 : chW prog_6_method_12_code 64 [184, 0, 169, 100, 54, 8, 22, 6, 20, 0, 157, 21, 10, 184, 0, 169, 133, 105, 25, 5, 180, 0, 178, 4, 184, 0, 181, 133, 109, 25, 5, 180, 0, 185, 133, 105] := chW_of (by decide +kernel)
theorem W_prog_6_method_12_code_96 : chW prog_6_method_12_code 96 [0, 185, 133, 105, 97, 55, 6, 132, 9, 1, 167, 255, 173, 177] := chW_of (by decide +kernel)
theorem d_6_12_103 : decode prog_6_method_12_code 103 = .ok (.iinc 9 1, 3) := D_132 W_prog_6_method_12_code_96 7 rfl rfl rfl
theorem W_prog_6_method_11_code_96 : chW prog_6_method_11_code 96 [12, 21, 15, 184, 0, 169, 96, 54, 12, 21, 13, 21, 15, 184, 0, 169, 100, 54, 13, 132, 14, 1, 167, 255, 181, 177] := chW_of (by decide +kernel)
theorem d_6_11_115 : decode prog_6_method_11_code 115 = .ok (.iinc 14 1, 3) := D_132 W_prog_6_method_11_code_96 19 rfl rfl rfl
theorem d_6_16_89 : decode prog_6_method_16_code 89 = .ok (.iinc 1 1, 3) := D_132 W_prog_6_method_16_code_64 25 rfl rfl rfl
abbrev Q_SoundFile_takeWide (K : zK) (D : va_G) (ca : Nat → ClassId) (ad : Nat → Int → Nat → Nat) (L : List Nat) (r : Int) (F : zF) (B : zB) (A : Nat → Prop) : Array Value → State → Outcome → State → Prop := va_Ql (S := Unit) (fun p _ => p = lI r) (fun _ => zPo D ca ad lnC K.2 L F B A) A
def f_SoundFile_takeWide_5 (K : zK) : Nat → Int → Int → Int → Int → zF → zB → zO
  | 0, _, _, _, _, _, _ => none
  | n + 1, l4, l2, l0, l1, F, B => if r32 l4 then if r32 l1 then (if l1 ≤ l4 then some (l2, F, B) else if 0 ≤ l0 ∧ l0 < K.2 8 then zbind (f_SoundFile_take K l0 F B) (fun r5 F5 B5 => if r32 r5 then f_SoundFile_takeWide_5 K n (l4 + 1) ((l2 * 256) + r5) l0 l1 F5 B5 else none) else none) else none else none
set_option maxHeartbeats 4000000 in
set_option maxRecDepth 100000 in
theorem b_SoundFile_takeWide_5 {D : va_G} {ca : Nat → ClassId} {ad : Nat → Int → Nat → Nat} {L : List Nat} {aS vS : Nat → Nat} {A : Nat → Prop} {p : Program} {l : Launch} {e : Env} {s : State} {m : MethodId} {args : Array Value} {below : List Frame} {meth : Method} {c : Code} {K : zK} {r : Int} {F9 : zF} {B9 : zB} (X : zX D ca L aS vS A p s m args meth c prog_10_method_7_code 5 (Option.some Jvm.ClassFile.FieldType.long) "StaveHouse$SoundFile") : ∀ {n : Nat} {l4 : Int} {l2 : Int} {l0 : Int} {l1 : Int} {F : zF} {B : zB} {H : Heap} {locs : List Loc} {ls : Array Slot}, f_SoundFile_takeWide_5 K n l4 l2 l0 l1 F B = some (r, F9, B9) → zH D ca ad lnC K.2 L F B A H → va_S A s.heap H locs → lv_has ls 5 [(4, .int (iI l4)), (2, .long (lI l2)), (0, .ref (ad 8 l0 0)), (1, .int (iI l1))] → W p l e ({ frames := 2, cells := 0, slots := 0, locals := 42 } : Room) s m args below meth c H locs 0 0 (MQ below (Q_SoundFile_takeWide K D ca ad L r F9 B9 A) args s 0 0 A) (F0 m 5 ls []) := by
  obtain ⟨hx, hb, hr, hml, hown, hts, hlk, hK, hA, hL, hX⟩ := id X
  intro n
  induction n with
  | zero =>
    intros
    rename_i hf _ _ _
    cases hf
  | succ n ih =>
    intro l4 l2 l0 l1 F B H locs ls hf hZ hS hl
    replace hf : (if r32 l4 then if r32 l1 then (if l1 ≤ l4 then some (l2, F, B) else if 0 ≤ l0 ∧ l0 < K.2 8 then zbind (f_SoundFile_take K l0 F B) (fun r5 F5 B5 => if r32 r5 then f_SoundFile_takeWide_5 K n (l4 + 1) ((l2 * 256) + r5) l0 l1 F5 B5 else none) else none) else none else none) = some (r, F9, B9) := hf
    refine lv_iload hx hb (D_21 W_prog_10_method_7_code_0 5 rfl rfl) (lv_at hl 0 rfl) ?_
    refine lv_iload_n hx hb (D_27 W_prog_10_method_7_code_0 7 rfl rfl) rfl (lv_at hl 3 rfl) ?_
    obtain ⟨g1, hf⟩ := gif hf
    obtain ⟨g2, hf⟩ := gif hf
    refine zge (tgt := 29) hx hb g1 g2 (D_162 W_prog_10_method_7_code_0 8 rfl rfl rfl) (by decide) (fun h3 => ?_) (fun h3 => ?_)
    · replace hf := gpos hf h3
      refine lv_lload_n hx hb (D_32 W_prog_10_method_7_code_0 29 rfl rfl) rfl (lv_at hl 1 rfl) ?_
      cases hf
      exact W.lret hx hb hr (fun t ht hW => ⟨⟨_, (), rfl, rfl, by rw [ht]; exact hZ, va_K.moved hW.alike hK⟩, hS.F ht⟩) hS.2.2 (D_173 W_prog_10_method_7_code_0 30 rfl rfl) hlk
    · replace hf := gneg hf h3
      refine lv_lload_n hx hb (D_32 W_prog_10_method_7_code_0 11 rfl rfl) rfl (lv_at hl 1 rfl) ?_
      refine lv_ldc2 hx hb hown (hts _ k_8_62) (D_20 W_prog_10_method_7_code_0 12 rfl rfl rfl) ?_
      refine W.eq (g2 := F0 m 15 ls [.long (lI 256), .long (lI l2)]) rfl ?_
      refine zlmul hx hb (D_105 W_prog_10_method_7_code_0 15 rfl rfl) ?_
      refine lv_aload_n hx hb (D_42 W_prog_10_method_7_code_0 16 rfl rfl) rfl (lv_at hl 2 rfl) ?_
      obtain ⟨g4, hf⟩ := gif hf
      obtain ⟨r5, F5, B5, hc5, hf⟩ := gbind hf
      refine va_calli (va_runV (As := []) (rest := [.long (lI (l2 * 256))]) ⟨hx, hb, hml, hown, hts⟩ (c_SoundFile_take (l := l) hc5) (cwV 0 hts (gdV k_8_49 k_8_51 ks_95 k_1_23 k_8_52) rfl rfl rfl (by decide +kernel) ⟨Nat.le_of_ble_eq_true rfl, Nat.le_of_ble_eq_true rfl⟩) (zPV X hZ hS (ci := 8) g4.1 g4.2 (r := (RX8, TX8, 15)) rfl []) rfl rfl hl.1 rfl (lv_room (Nat.le_of_ble_eq_true rfl)) (D_182 W_prog_10_method_7_code_0 17 rfl rfl rfl) ⟨Nat.le_of_ble_eq_true rfl, Nat.le_of_ble_eq_true rfl⟩) hS (fun q _ h => zAin X hS q h) (zAin X hS) (fun p5 u5 t5 H5 locs5 ht5 hv5 hw5 hB5 hz5 hk5 hS5 => ?_)
      have hZ5 := zBack X ht5 hB5
      subst hw5
      obtain ⟨g6, hf⟩ := gif hf
      refine zi2l hx hb g6 (D_133 W_prog_10_method_7_code_0 20 rfl rfl) ?_
      refine zladd hx hb (D_97 W_prog_10_method_7_code_0 21 rfl rfl) ?_
      refine lv_lstore_n (lv' := [(2, .long (lI ((l2 * 256) + r5))), (4, .int (iI l4)), (0, .ref (ad 8 l0 0)), (1, .int (iI l1))]) hx hb (D_65 W_prog_10_method_7_code_0 22 rfl rfl) rfl hl (by decide) rfl (fun ls hl => ?_)
      refine lv_iinc (v := iI (l4 + 1)) (lv' := [(4, .int (iI (l4 + 1))), (2, .long (lI ((l2 * 256) + r5))), (0, .ref (ad 8 l0 0)), (1, .int (iI l1))]) hx hb d_10_7_23 hl (k := 1) rfl (iI_add _ 1) (by decide) rfl (fun ls hl => ?_)
      refine lv_goto (tgt := 5) hx hb (D_167 W_prog_10_method_7_code_0 26 rfl rfl rfl) (by decide) ?_
      exact ih hf hZ5 hS5 (lv_sub hl [0, 1, 2, 3] rfl)

def f_SoundFile_takeWide (K : zK) (l0 : Int) (l1 : Int) (F : zF) (B : zB) : zO := f_SoundFile_takeWide_5 K K.1 0 0 l0 l1 F B
set_option maxHeartbeats 4000000 in
set_option maxRecDepth 100000 in
theorem c_SoundFile_takeWide {l : Launch} {D : va_G} {ca : Nat → ClassId} {ad : Nat → Int → Nat → Nat} {L : List Nat} {aS vS : Nat → Nat} {sz : Nat} {K : zK}  {l0 : Int} {l1 : Int} {F F9 : zF} {B B9 : zB} {r : Int} (hf : f_SoundFile_takeWide K l0 l1 F B = some (r, F9, B9)) : Met l ({ cls := "StaveHouse$SoundFile", name := "takeWide", desc := "(I)J" } : Jvm.MethodName) (Cond.code ({ cls := "StaveHouse$SoundFile", name := "takeWide", desc := "(I)J" } : Jvm.MethodName) prog_10_method_7_code 5 (Option.some Jvm.ClassFile.FieldType.long) :: wAll) ({ frames := 2, cells := 0, slots := 0, locals := 42 } : Room) (va_Pc [.ref (ad 8 l0 0), .int (iI l1)] (zPre D ca ad lnC K.2 L aS vS F B sz)) (Q_SoundFile_takeWide K D ca ad L r F9 B9 (zA L sz)) 0 0 (zA L sz) := by
  refine zMet (Qc := Q_SoundFile_takeWide K D ca ad L r F9 B9) (lv := [(0, .ref (ad 8 l0 0)), (1, .int (iI l1))]) (by decide) (Nat.le_of_ble_eq_true rfl) rfl (fun A p e s m below meth c ls X hZ hS hl => ?_)
  obtain ⟨hx, hb, hr, hml, hown, hts, hlk, hK, hA, hL, hX⟩ := id X
  replace hf : (f_SoundFile_takeWide_5 K K.1 0 0 l0 l1 F B) = some (r, F9, B9) := hf
  refine lv_lconst (v := lI 0) hx hb (D_9 W_prog_10_method_7_code_0 0 rfl rfl) (by decide) ?_
  refine lv_lstore_n (lv' := [(2, .long (lI 0)), (0, .ref (ad 8 l0 0)), (1, .int (iI l1))]) hx hb (D_65 W_prog_10_method_7_code_0 1 rfl rfl) rfl hl (by decide) rfl (fun ls hl => ?_)
  refine lv_iconst (v := iI 0) hx hb (D_3 W_prog_10_method_7_code_0 2 rfl rfl) rfl ?_
  refine lv_istore (lv' := [(4, .int (iI 0)), (2, .long (lI 0)), (0, .ref (ad 8 l0 0)), (1, .int (iI l1))]) hx hb (D_54 W_prog_10_method_7_code_0 3 rfl rfl) hl (by decide) rfl (fun ls hl => ?_)
  exact b_SoundFile_takeWide_5 X hf hZ hS (lv_sub hl [0, 1, 2, 3] rfl)

abbrev Q_SoundFile_takeBounded (K : zK) (D : va_G) (ca : Nat → ClassId) (ad : Nat → Int → Nat → Nat) (L : List Nat) (r : Int) (F : zF) (B : zB) (A : Nat → Prop) : Array Value → State → Outcome → State → Prop := va_Qi (S := Unit) (fun p _ => p = iI r) (fun _ => zPo D ca ad lnC K.2 L F B A) A
def f_SoundFile_takeBounded_28 (K : zK) (l6 : Int) (l0 : Int) (F : zF) (B : zB) : zO := if 0 ≤ l0 ∧ l0 < K.2 8 then zbind (f_SoundFile_refuse K l0 3 l6 F B) (fun r9 F9 B9 => some (0, F9, B9)) else none
set_option maxHeartbeats 4000000 in
set_option maxRecDepth 100000 in
theorem b_SoundFile_takeBounded_28 {D : va_G} {ca : Nat → ClassId} {ad : Nat → Int → Nat → Nat} {L : List Nat} {aS vS : Nat → Nat} {A : Nat → Prop} {p : Program} {l : Launch} {e : Env} {s : State} {m : MethodId} {args : Array Value} {below : List Frame} {meth : Method} {c : Code} {K : zK} {r : Int} {F9 : zF} {B9 : zB} (X : zX D ca L aS vS A p s m args meth c prog_10_method_8_code 9 (Option.some Jvm.ClassFile.FieldType.int) "StaveHouse$SoundFile") {l6 : Int} {l0 : Int} {F : zF} {B : zB} {H : Heap} {locs : List Loc} {ls : Array Slot} (hf : f_SoundFile_takeBounded_28 K l6 l0 F B = some (r, F9, B9)) (hZ : zH D ca ad lnC K.2 L F B A H) (hS : va_S A s.heap H locs) (hl : lv_has ls 9 [(6, .int (iI l6)), (0, .ref (ad 8 l0 0))]) : W p l e ({ frames := 3, cells := 0, slots := 0, locals := 66 } : Room) s m args below meth c H locs 0 0 (MQ below (Q_SoundFile_takeBounded K D ca ad L r F9 B9 A) args s 0 0 A) (F0 m 28 ls []) := by
  obtain ⟨hx, hb, hr, hml, hown, hts, hlk, hK, hA, hL, hX⟩ := id X
  replace hf : (if 0 ≤ l0 ∧ l0 < K.2 8 then zbind (f_SoundFile_refuse K l0 3 l6 F B) (fun r9 F9 B9 => some (0, F9, B9)) else none) = some (r, F9, B9) := hf
  refine lv_aload_n hx hb (D_42 W_prog_10_method_8_code_0 28 rfl rfl) rfl (lv_at hl 1 rfl) ?_
  refine lv_iconst (v := iI 3) hx hb (D_6 W_prog_10_method_8_code_0 29 rfl rfl) rfl ?_
  refine lv_iload hx hb (D_21 W_prog_10_method_8_code_0 30 rfl rfl) (lv_at hl 0 rfl) ?_
  obtain ⟨g8, hf⟩ := gif hf
  obtain ⟨r9, F9, B9, hc9, hf⟩ := gbind hf
  refine va_callv (va_runV (As := [.int (iI 3), .int (iI l6)]) (rest := []) ⟨hx, hb, hml, hown, hts⟩ (c_SoundFile_refuse (l := l) hc9) (cwV 2 hts (gdV k_8_53 k_8_55 ks_96 k_1_23 k_8_56) rfl rfl rfl (by decide +kernel) ⟨Nat.le_of_ble_eq_true rfl, Nat.le_of_ble_eq_true rfl⟩) (zPV X hZ hS (ci := 8) g8.1 g8.2 (r := (RX8, TX8, 15)) rfl [.int (iI 3), .int (iI l6)]) rfl rfl hl.1 rfl (lv_room (Nat.le_of_ble_eq_true rfl)) (D_182 W_prog_10_method_8_code_32 0 rfl rfl rfl) ⟨Nat.le_of_ble_eq_true rfl, Nat.le_of_ble_eq_true rfl⟩) hS (fun q _ h => zAin X hS q h) (zAin X hS) (fun u9 t9 H9 locs9 ht9 hv9 hw9 hB9 hz9 hk9 hS9 => ?_)
  have hZ9 := zBack X ht9 hB9
  refine lv_iconst (v := iI 0) hx hb (D_3 W_prog_10_method_8_code_32 3 rfl rfl) rfl ?_
  cases hf
  exact W.iret hx hb hr (fun t ht hW => ⟨⟨_, (), rfl, rfl, by rw [ht]; exact hZ9, va_K.moved hW.alike hK⟩, hS9.F ht⟩) hS9.2.2 (D_172 W_prog_10_method_8_code_32 4 rfl rfl) hlk

def f_SoundFile_takeBounded (K : zK) (l0 : Int) (l1 : Int) (l2 : Int) (l4 : Int) (F : zF) (B : zB) : zO := if 0 ≤ l0 ∧ l0 < K.2 8 then zbind (f_SoundFile_takeWide K l0 l1 F B) (fun r2 F2 B2 => if r64 r2 then if r64 l2 then (if (zcmp r2 l2) < 0 then f_SoundFile_takeBounded_28 K (F 8 l0 5) l0 F2 B2 else if r64 l4 then (if (zcmp r2 l4) ≤ 0 then some (r2, F2, B2) else f_SoundFile_takeBounded_28 K (F 8 l0 5) l0 F2 B2) else none) else none else none) else none
set_option maxHeartbeats 4000000 in
set_option maxRecDepth 100000 in
theorem c_SoundFile_takeBounded {l : Launch} {D : va_G} {ca : Nat → ClassId} {ad : Nat → Int → Nat → Nat} {L : List Nat} {aS vS : Nat → Nat} {sz : Nat} {K : zK}  {l0 : Int} {l1 : Int} {l2 : Int} {l4 : Int} {F F9 : zF} {B B9 : zB} {r : Int} (hf : f_SoundFile_takeBounded K l0 l1 l2 l4 F B = some (r, F9, B9)) : Met l ({ cls := "StaveHouse$SoundFile", name := "takeBounded", desc := "(IJJ)I" } : Jvm.MethodName) (Cond.code ({ cls := "StaveHouse$SoundFile", name := "takeBounded", desc := "(IJJ)I" } : Jvm.MethodName) prog_10_method_8_code 9 (Option.some Jvm.ClassFile.FieldType.int) :: wAll) ({ frames := 3, cells := 0, slots := 0, locals := 66 } : Room) (va_Pc [.ref (ad 8 l0 0), .int (iI l1), .long (lI l2), .long (lI l4)] (zPre D ca ad lnC K.2 L aS vS F B sz)) (Q_SoundFile_takeBounded K D ca ad L r F9 B9 (zA L sz)) 0 0 (zA L sz) := by
  refine zMet (Qc := Q_SoundFile_takeBounded K D ca ad L r F9 B9) (lv := [(0, .ref (ad 8 l0 0)), (1, .int (iI l1)), (2, .long (lI l2)), (4, .long (lI l4))]) (by decide) (Nat.le_of_ble_eq_true rfl) rfl (fun A p e s m below meth c ls X hZ hS hl => ?_)
  obtain ⟨hx, hb, hr, hml, hown, hts, hlk, hK, hA, hL, hX⟩ := id X
  replace hf : (if 0 ≤ l0 ∧ l0 < K.2 8 then zbind (f_SoundFile_takeWide K l0 l1 F B) (fun r2 F2 B2 => if r64 r2 then if r64 l2 then (if (zcmp r2 l2) < 0 then f_SoundFile_takeBounded_28 K (F 8 l0 5) l0 F2 B2 else if r64 l4 then (if (zcmp r2 l4) ≤ 0 then some (r2, F2, B2) else f_SoundFile_takeBounded_28 K (F 8 l0 5) l0 F2 B2) else none) else none else none) else none) = some (r, F9, B9) := hf
  refine lv_aload_n hx hb (D_42 W_prog_10_method_8_code_0 0 rfl rfl) rfl (lv_at hl 0 rfl) ?_
  obtain ⟨g1, hf⟩ := gif hf
  refine zget (ci := 8) (C := RX8) (T := TX8) (v := .int (iI (F 8 l0 5))) (k := 5) hx hb hts inW_8 hown hK hZ g1.1 g1.2 rfl (by decide) k_7_229 rfl (D_180 W_prog_10_method_8_code_0 1 rfl rfl rfl) ?_
  refine lv_istore (lv' := [(6, .int (iI (F 8 l0 5))), (0, .ref (ad 8 l0 0)), (1, .int (iI l1)), (2, .long (lI l2)), (4, .long (lI l4))]) hx hb (D_54 W_prog_10_method_8_code_0 4 rfl rfl) hl (by decide) rfl (fun ls hl => ?_)
  refine lv_aload_n hx hb (D_42 W_prog_10_method_8_code_0 6 rfl rfl) rfl (lv_at hl 1 rfl) ?_
  refine lv_iload_n hx hb (D_27 W_prog_10_method_8_code_0 7 rfl rfl) rfl (lv_at hl 2 rfl) ?_
  obtain ⟨r2, F2, B2, hc2, hf⟩ := gbind hf
  refine va_calll (va_runV (As := [.int (iI l1)]) (rest := []) ⟨hx, hb, hml, hown, hts⟩ (c_SoundFile_takeWide (l := l) hc2) (cwV 1 hts (gdV k_8_58 k_8_60 ks_97 k_1_23 k_8_61) rfl rfl rfl (by decide +kernel) ⟨Nat.le_of_ble_eq_true rfl, Nat.le_of_ble_eq_true rfl⟩) (zPV X hZ hS (ci := 8) g1.1 g1.2 (r := (RX8, TX8, 15)) rfl [.int (iI l1)]) rfl rfl hl.1 rfl (lv_room (Nat.le_of_ble_eq_true rfl)) (D_182 W_prog_10_method_8_code_0 8 rfl rfl rfl) ⟨Nat.le_of_ble_eq_true rfl, Nat.le_of_ble_eq_true rfl⟩) hS (fun q _ h => zAin X hS q h) (zAin X hS) (fun p2 u2 t2 H2 locs2 ht2 hv2 hw2 hB2 hz2 hk2 hS2 => ?_)
  have hZ2 := zBack X ht2 hB2
  subst hw2
  refine lv_lstore (lv' := [(7, .long (lI r2)), (6, .int (iI (F 8 l0 5))), (0, .ref (ad 8 l0 0)), (1, .int (iI l1)), (2, .long (lI l2)), (4, .long (lI l4))]) hx hb (D_55 W_prog_10_method_8_code_0 11 rfl rfl) hl (by decide) rfl (fun ls hl => ?_)
  refine lv_lload hx hb (D_22 W_prog_10_method_8_code_0 13 rfl rfl) (lv_at hl 0 rfl) ?_
  refine lv_lload_n hx hb (D_32 W_prog_10_method_8_code_0 15 rfl rfl) rfl (lv_at hl 4 rfl) ?_
  obtain ⟨g3, hf⟩ := gif hf
  obtain ⟨g4, hf⟩ := gif hf
  refine zcmp_r hx hb g3 g4 (D_148 W_prog_10_method_8_code_0 16 rfl rfl) ?_
  refine z0lt (tgt := 28) hx hb zcmp_32 (D_155 W_prog_10_method_8_code_0 17 rfl rfl rfl) (by decide) (fun h5 => ?_) (fun h5 => ?_)
  · replace hf := gpos hf h5
    exact b_SoundFile_takeBounded_28 X hf hZ2 hS2 (lv_sub hl [1, 2] rfl)
  · replace hf := gneg hf h5
    refine lv_lload hx hb (D_22 W_prog_10_method_8_code_0 20 rfl rfl) (lv_at hl 0 rfl) ?_
    refine lv_lload hx hb (D_22 W_prog_10_method_8_code_0 22 rfl rfl) (lv_at hl 5 rfl) ?_
    obtain ⟨g6, hf⟩ := gif hf
    refine zcmp_r hx hb g3 g6 (D_148 W_prog_10_method_8_code_0 24 rfl rfl) ?_
    refine z0le (tgt := 37) hx hb zcmp_32 (D_158 W_prog_10_method_8_code_0 25 rfl rfl rfl) (by decide) (fun h7 => ?_) (fun h7 => ?_)
    · replace hf := gpos hf h7
      refine lv_lload hx hb (D_22 W_prog_10_method_8_code_32 5 rfl rfl) (lv_at hl 0 rfl) ?_
      refine zl2iw hx hb (D_136 W_prog_10_method_8_code_32 7 rfl rfl) ?_
      cases hf
      exact W.iret hx hb hr (fun t ht hW => ⟨⟨_, (), rfl, rfl, by rw [ht]; exact hZ2, va_K.moved hW.alike hK⟩, hS2.F ht⟩) hS2.2.2 (D_172 W_prog_10_method_8_code_32 8 rfl rfl) hlk
    · replace hf := gneg hf h7
      exact b_SoundFile_takeBounded_28 X hf hZ2 hS2 (lv_sub hl [1, 2] rfl)

abbrev Q_SoundFile_takeDelta (K : zK) (D : va_G) (ca : Nat → ClassId) (ad : Nat → Int → Nat → Nat) (L : List Nat) (r : Int) (F : zF) (B : zB) (A : Nat → Prop) : Array Value → State → Outcome → State → Prop := va_Qi (S := Unit) (fun p _ => p = iI r) (fun _ => zPo D ca ad lnC K.2 L F B A) A
def f_SoundFile_takeDelta_4 (K : zK) : Nat → Int → Int → Int → zF → zB → zO
  | 0, _, _, _, _, _ => none
  | n + 1, l2, l1, l0, F, B => if r32 l2 then (if 4 ≤ l2 then if 0 ≤ l0 ∧ l0 < K.2 8 then zbind (f_SoundFile_refuse K l0 1 ((F 8 l0 5) - 1) F B) (fun r4 F4 B4 => some (0, F4, B4)) else none else if 0 ≤ l0 ∧ l0 < K.2 8 then zbind (f_SoundFile_take K l0 F B) (fun r6 F6 B6 => if r32 r6 then (if 128 ≤ r6 then f_SoundFile_takeDelta_4 K n (l2 + 1) ((l1 * 128) + (zrm r6 128)) l0 F6 B6 else some ((l1 * 128) + (zrm r6 128), F6, B6)) else none) else none) else none
set_option maxHeartbeats 4000000 in
set_option maxRecDepth 100000 in
theorem b_SoundFile_takeDelta_4 {D : va_G} {ca : Nat → ClassId} {ad : Nat → Int → Nat → Nat} {L : List Nat} {aS vS : Nat → Nat} {A : Nat → Prop} {p : Program} {l : Launch} {e : Env} {s : State} {m : MethodId} {args : Array Value} {below : List Frame} {meth : Method} {c : Code} {K : zK} {r : Int} {F9 : zF} {B9 : zB} (X : zX D ca L aS vS A p s m args meth c prog_10_method_9_code 4 (Option.some Jvm.ClassFile.FieldType.int) "StaveHouse$SoundFile") : ∀ {n : Nat} {l2 : Int} {l1 : Int} {l0 : Int} {F : zF} {B : zB} {H : Heap} {locs : List Loc} {ls : Array Slot}, f_SoundFile_takeDelta_4 K n l2 l1 l0 F B = some (r, F9, B9) → zH D ca ad lnC K.2 L F B A H → va_S A s.heap H locs → lv_has ls 4 [(2, .int (iI l2)), (1, .int (iI l1)), (0, .ref (ad 8 l0 0))] → W p l e ({ frames := 2, cells := 0, slots := 0, locals := 42 } : Room) s m args below meth c H locs 0 0 (MQ below (Q_SoundFile_takeDelta K D ca ad L r F9 B9 A) args s 0 0 A) (F0 m 4 ls []) := by
  obtain ⟨hx, hb, hr, hml, hown, hts, hlk, hK, hA, hL, hX⟩ := id X
  intro n
  induction n with
  | zero =>
    intros
    rename_i hf _ _ _
    cases hf
  | succ n ih =>
    intro l2 l1 l0 F B H locs ls hf hZ hS hl
    replace hf : (if r32 l2 then (if 4 ≤ l2 then if 0 ≤ l0 ∧ l0 < K.2 8 then zbind (f_SoundFile_refuse K l0 1 ((F 8 l0 5) - 1) F B) (fun r4 F4 B4 => some (0, F4, B4)) else none else if 0 ≤ l0 ∧ l0 < K.2 8 then zbind (f_SoundFile_take K l0 F B) (fun r6 F6 B6 => if r32 r6 then (if 128 ≤ r6 then f_SoundFile_takeDelta_4 K n (l2 + 1) ((l1 * 128) + (zrm r6 128)) l0 F6 B6 else some ((l1 * 128) + (zrm r6 128), F6, B6)) else none) else none) else none) = some (r, F9, B9) := hf
    refine lv_iload_n hx hb (D_28 W_prog_10_method_9_code_0 4 rfl rfl) rfl (lv_at hl 0 rfl) ?_
    refine lv_iconst (v := iI 4) hx hb (D_7 W_prog_10_method_9_code_0 5 rfl rfl) rfl ?_
    obtain ⟨g1, hf⟩ := gif hf
    refine zge (tgt := 41) hx hb g1 (by decide) (D_162 W_prog_10_method_9_code_0 6 rfl rfl rfl) (by decide) (fun h2 => ?_) (fun h2 => ?_)
    · replace hf := gpos hf h2
      refine lv_aload_n hx hb (D_42 W_prog_10_method_9_code_32 9 rfl rfl) rfl (lv_at hl 2 rfl) ?_
      refine lv_iconst (v := iI 1) hx hb (D_4 W_prog_10_method_9_code_32 10 rfl rfl) rfl ?_
      refine lv_aload_n hx hb (D_42 W_prog_10_method_9_code_32 11 rfl rfl) rfl (lv_at hl 2 rfl) ?_
      obtain ⟨g3, hf⟩ := gif hf
      refine zget (ci := 8) (C := RX8) (T := TX8) (v := .int (iI (F 8 l0 5))) (k := 5) hx hb hts inW_8 hown hK hZ g3.1 g3.2 rfl (by decide) k_7_229 rfl (D_180 W_prog_10_method_9_code_32 12 rfl rfl rfl) ?_
      refine lv_iconst (v := iI 1) hx hb (D_4 W_prog_10_method_9_code_32 15 rfl rfl) rfl ?_
      refine zsub hx hb (D_100 W_prog_10_method_9_code_32 16 rfl rfl) ?_
      obtain ⟨r4, F4, B4, hc4, hf⟩ := gbind hf
      refine va_callv (va_runV (As := [.int (iI 1), .int (iI ((F 8 l0 5) - 1))]) (rest := []) ⟨hx, hb, hml, hown, hts⟩ (c_SoundFile_refuse (l := l) hc4) (cwV 2 hts (gdV k_8_53 k_8_55 ks_96 k_1_23 k_8_56) rfl rfl rfl (by decide +kernel) ⟨Nat.le_of_ble_eq_true rfl, Nat.le_of_ble_eq_true rfl⟩) (zPV X hZ hS (ci := 8) g3.1 g3.2 (r := (RX8, TX8, 15)) rfl [.int (iI 1), .int (iI ((F 8 l0 5) - 1))]) rfl rfl hl.1 rfl (lv_room (Nat.le_of_ble_eq_true rfl)) (D_182 W_prog_10_method_9_code_32 17 rfl rfl rfl) ⟨Nat.le_of_ble_eq_true rfl, Nat.le_of_ble_eq_true rfl⟩) hS (fun q _ h => zAin X hS q h) (zAin X hS) (fun u4 t4 H4 locs4 ht4 hv4 hw4 hB4 hz4 hk4 hS4 => ?_)
      have hZ4 := zBack X ht4 hB4
      refine lv_iconst (v := iI 0) hx hb (D_3 W_prog_10_method_9_code_32 20 rfl rfl) rfl ?_
      cases hf
      exact W.iret hx hb hr (fun t ht hW => ⟨⟨_, (), rfl, rfl, by rw [ht]; exact hZ4, va_K.moved hW.alike hK⟩, hS4.F ht⟩) hS4.2.2 (D_172 W_prog_10_method_9_code_32 21 rfl rfl) hlk
    · replace hf := gneg hf h2
      refine lv_aload_n hx hb (D_42 W_prog_10_method_9_code_0 9 rfl rfl) rfl (lv_at hl 2 rfl) ?_
      obtain ⟨g5, hf⟩ := gif hf
      obtain ⟨r6, F6, B6, hc6, hf⟩ := gbind hf
      refine va_calli (va_runV (As := []) (rest := []) ⟨hx, hb, hml, hown, hts⟩ (c_SoundFile_take (l := l) hc6) (cwV 0 hts (gdV k_8_49 k_8_51 ks_95 k_1_23 k_8_52) rfl rfl rfl (by decide +kernel) ⟨Nat.le_of_ble_eq_true rfl, Nat.le_of_ble_eq_true rfl⟩) (zPV X hZ hS (ci := 8) g5.1 g5.2 (r := (RX8, TX8, 15)) rfl []) rfl rfl hl.1 rfl (lv_room (Nat.le_of_ble_eq_true rfl)) (D_182 W_prog_10_method_9_code_0 10 rfl rfl rfl) ⟨Nat.le_of_ble_eq_true rfl, Nat.le_of_ble_eq_true rfl⟩) hS (fun q _ h => zAin X hS q h) (zAin X hS) (fun p6 u6 t6 H6 locs6 ht6 hv6 hw6 hB6 hz6 hk6 hS6 => ?_)
      have hZ6 := zBack X ht6 hB6
      subst hw6
      refine lv_istore_n (lv' := [(3, .int (iI r6)), (2, .int (iI l2)), (1, .int (iI l1)), (0, .ref (ad 8 l0 0))]) hx hb (D_62 W_prog_10_method_9_code_0 13 rfl rfl) rfl hl (by decide) rfl (fun ls hl => ?_)
      refine lv_iload_n hx hb (D_27 W_prog_10_method_9_code_0 14 rfl rfl) rfl (lv_at hl 2 rfl) ?_
      refine lv_sipush (v := iI 128) hx hb (D_17 W_prog_10_method_9_code_0 15 rfl rfl rfl) (by decide) ?_
      refine zmul hx hb (D_104 W_prog_10_method_9_code_0 18 rfl rfl) ?_
      refine lv_iload_n hx hb (D_29 W_prog_10_method_9_code_0 19 rfl rfl) rfl (lv_at hl 0 rfl) ?_
      refine lv_sipush (v := iI 128) hx hb (D_17 W_prog_10_method_9_code_0 20 rfl rfl rfl) (by decide) ?_
      refine zrm_r hx hb (by decide) (D_112 W_prog_10_method_9_code_0 23 rfl rfl) ?_
      refine zadd hx hb (D_96 W_prog_10_method_9_code_0 24 rfl rfl) ?_
      refine lv_istore_n (lv' := [(1, .int (iI ((l1 * 128) + (zrm r6 128)))), (3, .int (iI r6)), (2, .int (iI l2)), (0, .ref (ad 8 l0 0))]) hx hb (D_60 W_prog_10_method_9_code_0 25 rfl rfl) rfl hl (by decide) rfl (fun ls hl => ?_)
      refine lv_iload_n hx hb (D_29 W_prog_10_method_9_code_0 26 rfl rfl) rfl (lv_at hl 1 rfl) ?_
      refine lv_sipush (v := iI 128) hx hb (D_17 W_prog_10_method_9_code_0 27 rfl rfl rfl) (by decide) ?_
      obtain ⟨g7, hf⟩ := gif hf
      refine zge (tgt := 35) hx hb g7 (by decide) (D_162 W_prog_10_method_9_code_0 30 rfl rfl rfl) (by decide) (fun h8 => ?_) (fun h8 => ?_)
      · replace hf := gpos hf h8
        refine lv_iinc (v := iI (l2 + 1)) (lv' := [(2, .int (iI (l2 + 1))), (1, .int (iI ((l1 * 128) + (zrm r6 128)))), (3, .int (iI r6)), (0, .ref (ad 8 l0 0))]) hx hb d_10_9_35 hl (k := 2) rfl (iI_add _ 1) (by decide) rfl (fun ls hl => ?_)
        refine lv_goto (tgt := 4) hx hb (D_167 W_prog_10_method_9_code_32 6 rfl rfl rfl) (by decide) ?_
        exact ih hf hZ6 hS6 (lv_sub hl [0, 1, 3] rfl)
      · replace hf := gneg hf h8
        refine lv_iload_n hx hb (D_27 W_prog_10_method_9_code_32 1 rfl rfl) rfl (lv_at hl 0 rfl) ?_
        cases hf
        exact W.iret hx hb hr (fun t ht hW => ⟨⟨_, (), rfl, rfl, by rw [ht]; exact hZ6, va_K.moved hW.alike hK⟩, hS6.F ht⟩) hS6.2.2 (D_172 W_prog_10_method_9_code_32 2 rfl rfl) hlk

def f_SoundFile_takeDelta (K : zK) (l0 : Int) (F : zF) (B : zB) : zO := f_SoundFile_takeDelta_4 K K.1 0 0 l0 F B
set_option maxHeartbeats 4000000 in
set_option maxRecDepth 100000 in
theorem c_SoundFile_takeDelta {l : Launch} {D : va_G} {ca : Nat → ClassId} {ad : Nat → Int → Nat → Nat} {L : List Nat} {aS vS : Nat → Nat} {sz : Nat} {K : zK}  {l0 : Int} {F F9 : zF} {B B9 : zB} {r : Int} (hf : f_SoundFile_takeDelta K l0 F B = some (r, F9, B9)) : Met l ({ cls := "StaveHouse$SoundFile", name := "takeDelta", desc := "()I" } : Jvm.MethodName) (Cond.code ({ cls := "StaveHouse$SoundFile", name := "takeDelta", desc := "()I" } : Jvm.MethodName) prog_10_method_9_code 4 (Option.some Jvm.ClassFile.FieldType.int) :: wAll) ({ frames := 2, cells := 0, slots := 0, locals := 42 } : Room) (va_Pc [.ref (ad 8 l0 0)] (zPre D ca ad lnC K.2 L aS vS F B sz)) (Q_SoundFile_takeDelta K D ca ad L r F9 B9 (zA L sz)) 0 0 (zA L sz) := by
  refine zMet (Qc := Q_SoundFile_takeDelta K D ca ad L r F9 B9) (lv := [(0, .ref (ad 8 l0 0))]) (by decide) (Nat.le_of_ble_eq_true rfl) rfl (fun A p e s m below meth c ls X hZ hS hl => ?_)
  obtain ⟨hx, hb, hr, hml, hown, hts, hlk, hK, hA, hL, hX⟩ := id X
  replace hf : (f_SoundFile_takeDelta_4 K K.1 0 0 l0 F B) = some (r, F9, B9) := hf
  refine lv_iconst (v := iI 0) hx hb (D_3 W_prog_10_method_9_code_0 0 rfl rfl) rfl ?_
  refine lv_istore_n (lv' := [(1, .int (iI 0)), (0, .ref (ad 8 l0 0))]) hx hb (D_60 W_prog_10_method_9_code_0 1 rfl rfl) rfl hl (by decide) rfl (fun ls hl => ?_)
  refine lv_iconst (v := iI 0) hx hb (D_3 W_prog_10_method_9_code_0 2 rfl rfl) rfl ?_
  refine lv_istore_n (lv' := [(2, .int (iI 0)), (1, .int (iI 0)), (0, .ref (ad 8 l0 0))]) hx hb (D_61 W_prog_10_method_9_code_0 3 rfl rfl) rfl hl (by decide) rfl (fun ls hl => ?_)
  exact b_SoundFile_takeDelta_4 X hf hZ hS (lv_sub hl [0, 1, 2] rfl)

abbrev Q_SoundFile_takeData (K : zK) (D : va_G) (ca : Nat → ClassId) (ad : Nat → Int → Nat → Nat) (L : List Nat) (r : Int) (F : zF) (B : zB) (A : Nat → Prop) : Array Value → State → Outcome → State → Prop := va_Qi (S := Unit) (fun p _ => p = iI r) (fun _ => zPo D ca ad lnC K.2 L F B A) A
def f_SoundFile_takeData_23 (K : zK) (l1 : Int) (F : zF) (B : zB) : zO := some (l1, F, B)
set_option maxHeartbeats 4000000 in
set_option maxRecDepth 100000 in
theorem b_SoundFile_takeData_23 {D : va_G} {ca : Nat → ClassId} {ad : Nat → Int → Nat → Nat} {L : List Nat} {aS vS : Nat → Nat} {A : Nat → Prop} {p : Program} {l : Launch} {e : Env} {s : State} {m : MethodId} {args : Array Value} {below : List Frame} {meth : Method} {c : Code} {K : zK} {r : Int} {F9 : zF} {B9 : zB} (X : zX D ca L aS vS A p s m args meth c prog_10_method_10_code 2 (Option.some Jvm.ClassFile.FieldType.int) "StaveHouse$SoundFile") {l1 : Int} {F : zF} {B : zB} {H : Heap} {locs : List Loc} {ls : Array Slot} (hf : f_SoundFile_takeData_23 K l1 F B = some (r, F9, B9)) (hZ : zH D ca ad lnC K.2 L F B A H) (hS : va_S A s.heap H locs) (hl : lv_has ls 2 [(1, .int (iI l1))]) : W p l e ({ frames := 2, cells := 0, slots := 0, locals := 42 } : Room) s m args below meth c H locs 0 0 (MQ below (Q_SoundFile_takeData K D ca ad L r F9 B9 A) args s 0 0 A) (F0 m 23 ls []) := by
  obtain ⟨hx, hb, hr, hml, hown, hts, hlk, hK, hA, hL, hX⟩ := id X
  replace hf : (some (l1, F, B)) = some (r, F9, B9) := hf
  refine lv_iload_n hx hb (D_27 W_prog_10_method_10_code_0 23 rfl rfl) rfl (lv_at hl 0 rfl) ?_
  cases hf
  exact W.iret hx hb hr (fun t ht hW => ⟨⟨_, (), rfl, rfl, by rw [ht]; exact hZ, va_K.moved hW.alike hK⟩, hS.F ht⟩) hS.2.2 (D_172 W_prog_10_method_10_code_0 24 rfl rfl) hlk

def f_SoundFile_takeData (K : zK) (l0 : Int) (F : zF) (B : zB) : zO := if 0 ≤ l0 ∧ l0 < K.2 8 then zbind (f_SoundFile_take K l0 F B) (fun r2 F2 B2 => if r32 r2 then (if r2 < 128 then f_SoundFile_takeData_23 K r2 F2 B2 else zbind (f_SoundFile_refuse K l0 1 ((F2 8 l0 5) - 1) F2 B2) (fun r5 F5 B5 => f_SoundFile_takeData_23 K r2 F5 B5)) else none) else none
set_option maxHeartbeats 4000000 in
set_option maxRecDepth 100000 in
theorem c_SoundFile_takeData {l : Launch} {D : va_G} {ca : Nat → ClassId} {ad : Nat → Int → Nat → Nat} {L : List Nat} {aS vS : Nat → Nat} {sz : Nat} {K : zK}  {l0 : Int} {F F9 : zF} {B B9 : zB} {r : Int} (hf : f_SoundFile_takeData K l0 F B = some (r, F9, B9)) : Met l ({ cls := "StaveHouse$SoundFile", name := "takeData", desc := "()I" } : Jvm.MethodName) (Cond.code ({ cls := "StaveHouse$SoundFile", name := "takeData", desc := "()I" } : Jvm.MethodName) prog_10_method_10_code 2 (Option.some Jvm.ClassFile.FieldType.int) :: wAll) ({ frames := 2, cells := 0, slots := 0, locals := 42 } : Room) (va_Pc [.ref (ad 8 l0 0)] (zPre D ca ad lnC K.2 L aS vS F B sz)) (Q_SoundFile_takeData K D ca ad L r F9 B9 (zA L sz)) 0 0 (zA L sz) := by
  refine zMet (Qc := Q_SoundFile_takeData K D ca ad L r F9 B9) (lv := [(0, .ref (ad 8 l0 0))]) (by decide) (Nat.le_of_ble_eq_true rfl) rfl (fun A p e s m below meth c ls X hZ hS hl => ?_)
  obtain ⟨hx, hb, hr, hml, hown, hts, hlk, hK, hA, hL, hX⟩ := id X
  replace hf : (if 0 ≤ l0 ∧ l0 < K.2 8 then zbind (f_SoundFile_take K l0 F B) (fun r2 F2 B2 => if r32 r2 then (if r2 < 128 then f_SoundFile_takeData_23 K r2 F2 B2 else zbind (f_SoundFile_refuse K l0 1 ((F2 8 l0 5) - 1) F2 B2) (fun r5 F5 B5 => f_SoundFile_takeData_23 K r2 F5 B5)) else none) else none) = some (r, F9, B9) := hf
  refine lv_aload_n hx hb (D_42 W_prog_10_method_10_code_0 0 rfl rfl) rfl (lv_at hl 0 rfl) ?_
  obtain ⟨g1, hf⟩ := gif hf
  obtain ⟨r2, F2, B2, hc2, hf⟩ := gbind hf
  refine va_calli (va_runV (As := []) (rest := []) ⟨hx, hb, hml, hown, hts⟩ (c_SoundFile_take (l := l) hc2) (cwV 0 hts (gdV k_8_49 k_8_51 ks_95 k_1_23 k_8_52) rfl rfl rfl (by decide +kernel) ⟨Nat.le_of_ble_eq_true rfl, Nat.le_of_ble_eq_true rfl⟩) (zPV X hZ hS (ci := 8) g1.1 g1.2 (r := (RX8, TX8, 15)) rfl []) rfl rfl hl.1 rfl (lv_room (Nat.le_of_ble_eq_true rfl)) (D_182 W_prog_10_method_10_code_0 1 rfl rfl rfl) ⟨Nat.le_of_ble_eq_true rfl, Nat.le_of_ble_eq_true rfl⟩) hS (fun q _ h => zAin X hS q h) (zAin X hS) (fun p2 u2 t2 H2 locs2 ht2 hv2 hw2 hB2 hz2 hk2 hS2 => ?_)
  have hZ2 := zBack X ht2 hB2
  subst hw2
  refine lv_istore_n (lv' := [(1, .int (iI r2)), (0, .ref (ad 8 l0 0))]) hx hb (D_60 W_prog_10_method_10_code_0 4 rfl rfl) rfl hl (by decide) rfl (fun ls hl => ?_)
  refine lv_iload_n hx hb (D_27 W_prog_10_method_10_code_0 5 rfl rfl) rfl (lv_at hl 0 rfl) ?_
  refine lv_sipush (v := iI 128) hx hb (D_17 W_prog_10_method_10_code_0 6 rfl rfl rfl) (by decide) ?_
  obtain ⟨g3, hf⟩ := gif hf
  refine zlt (tgt := 23) hx hb g3 (by decide) (D_161 W_prog_10_method_10_code_0 9 rfl rfl rfl) (by decide) (fun h4 => ?_) (fun h4 => ?_)
  · replace hf := gpos hf h4
    exact b_SoundFile_takeData_23 X hf hZ2 hS2 (lv_sub hl [0] rfl)
  · replace hf := gneg hf h4
    refine lv_aload_n hx hb (D_42 W_prog_10_method_10_code_0 12 rfl rfl) rfl (lv_at hl 1 rfl) ?_
    refine lv_iconst (v := iI 1) hx hb (D_4 W_prog_10_method_10_code_0 13 rfl rfl) rfl ?_
    refine lv_aload_n hx hb (D_42 W_prog_10_method_10_code_0 14 rfl rfl) rfl (lv_at hl 1 rfl) ?_
    refine zget (ci := 8) (C := RX8) (T := TX8) (v := .int (iI (F2 8 l0 5))) (k := 5) hx hb hts inW_8 hown hK hZ2 g1.1 g1.2 rfl (by decide) k_7_229 rfl (D_180 W_prog_10_method_10_code_0 15 rfl rfl rfl) ?_
    refine lv_iconst (v := iI 1) hx hb (D_4 W_prog_10_method_10_code_0 18 rfl rfl) rfl ?_
    refine zsub hx hb (D_100 W_prog_10_method_10_code_0 19 rfl rfl) ?_
    obtain ⟨r5, F5, B5, hc5, hf⟩ := gbind hf
    refine va_callv (va_runV (As := [.int (iI 1), .int (iI ((F2 8 l0 5) - 1))]) (rest := []) ⟨hx, hb, hml, hown, hts⟩ (c_SoundFile_refuse (l := l) hc5) (cwV 2 hts (gdV k_8_53 k_8_55 ks_96 k_1_23 k_8_56) rfl rfl rfl (by decide +kernel) ⟨Nat.le_of_ble_eq_true rfl, Nat.le_of_ble_eq_true rfl⟩) (zPV X hZ2 hS2 (ci := 8) g1.1 g1.2 (r := (RX8, TX8, 15)) rfl [.int (iI 1), .int (iI ((F2 8 l0 5) - 1))]) rfl rfl hl.1 rfl (lv_room (Nat.le_of_ble_eq_true rfl)) (D_182 W_prog_10_method_10_code_0 20 rfl rfl rfl) ⟨Nat.le_of_ble_eq_true rfl, Nat.le_of_ble_eq_true rfl⟩) hS2 (fun q _ h => zAin X hS2 q h) (zAin X hS2) (fun u5 t5 H5 locs5 ht5 hv5 hw5 hB5 hz5 hk5 hS5 => ?_)
    have hZ5 := zBack X ht5 hB5
    exact b_SoundFile_takeData_23 X hf hZ5 hS5 (lv_sub hl [0] rfl)

abbrev Q_SoundFile_loadMessage (K : zK) (D : va_G) (ca : Nat → ClassId) (ad : Nat → Int → Nat → Nat) (L : List Nat) (r : Int) (F : zF) (B : zB) (A : Nat → Prop) : Array Value → State → Outcome → State → Prop := va_Qv (S := Unit) (fun _ => True) (fun _ => zPo D ca ad lnC K.2 L F B A) A
def f_SoundFile_loadMessage_120 (K : zK)  (F : zF) (B : zB) : zO := some (0, F, B)
set_option maxHeartbeats 4000000 in
set_option maxRecDepth 100000 in
theorem b_SoundFile_loadMessage_120 {D : va_G} {ca : Nat → ClassId} {ad : Nat → Int → Nat → Nat} {L : List Nat} {aS vS : Nat → Nat} {A : Nat → Prop} {p : Program} {l : Launch} {e : Env} {s : State} {m : MethodId} {args : Array Value} {below : List Frame} {meth : Method} {c : Code} {K : zK} {r : Int} {F9 : zF} {B9 : zB} (X : zX D ca L aS vS A p s m args meth c prog_10_method_15_code 6 (Option.none : Option Jvm.ClassFile.FieldType) "StaveHouse$SoundFile")  {F : zF} {B : zB} {H : Heap} {locs : List Loc} {ls : Array Slot} (hf : f_SoundFile_loadMessage_120 K  F B = some (r, F9, B9)) (hZ : zH D ca ad lnC K.2 L F B A H) (hS : va_S A s.heap H locs) (hl : lv_has ls 6 []) : W p l e ({ frames := 3, cells := 0, slots := 0, locals := 63 } : Room) s m args below meth c H locs 0 0 (MQ below (Q_SoundFile_loadMessage K D ca ad L r F9 B9 A) args s 0 0 A) (F0 m 120 ls []) := by
  obtain ⟨hx, hb, hr, hml, hown, hts, hlk, hK, hA, hL, hX⟩ := id X
  replace hf : (some (0, F, B)) = some (r, F9, B9) := hf
  cases hf
  exact W.vret hx hb hr (fun t ht hW => ⟨⟨(), rfl, trivial, by rw [ht]; exact hZ, va_K.moved hW.alike hK⟩, hS.F ht⟩) hS.2.2 (D_177 W_prog_10_method_15_code_96 24 rfl rfl) hlk

def f_SoundFile_loadMessage_114 (K : zK) (l0 : Int) (l1 : Int) (l3 : Int) (F : zF) (B : zB) : zO := if 0 ≤ l0 ∧ l0 < K.2 8 then zbind (f_SoundFile_endSound K l0 l1 l3 F B) (fun r25 F25 B25 => f_SoundFile_loadMessage_120 K F25 B25) else none
set_option maxHeartbeats 4000000 in
set_option maxRecDepth 100000 in
theorem b_SoundFile_loadMessage_114 {D : va_G} {ca : Nat → ClassId} {ad : Nat → Int → Nat → Nat} {L : List Nat} {aS vS : Nat → Nat} {A : Nat → Prop} {p : Program} {l : Launch} {e : Env} {s : State} {m : MethodId} {args : Array Value} {below : List Frame} {meth : Method} {c : Code} {K : zK} {r : Int} {F9 : zF} {B9 : zB} (X : zX D ca L aS vS A p s m args meth c prog_10_method_15_code 6 (Option.none : Option Jvm.ClassFile.FieldType) "StaveHouse$SoundFile") {l0 : Int} {l1 : Int} {l3 : Int} {F : zF} {B : zB} {H : Heap} {locs : List Loc} {ls : Array Slot} (hf : f_SoundFile_loadMessage_114 K l0 l1 l3 F B = some (r, F9, B9)) (hZ : zH D ca ad lnC K.2 L F B A H) (hS : va_S A s.heap H locs) (hl : lv_has ls 6 [(0, .ref (ad 8 l0 0)), (1, .int (iI l1)), (3, .int (iI l3))]) : W p l e ({ frames := 3, cells := 0, slots := 0, locals := 63 } : Room) s m args below meth c H locs 0 0 (MQ below (Q_SoundFile_loadMessage K D ca ad L r F9 B9 A) args s 0 0 A) (F0 m 114 ls []) := by
  obtain ⟨hx, hb, hr, hml, hown, hts, hlk, hK, hA, hL, hX⟩ := id X
  replace hf : (if 0 ≤ l0 ∧ l0 < K.2 8 then zbind (f_SoundFile_endSound K l0 l1 l3 F B) (fun r25 F25 B25 => f_SoundFile_loadMessage_120 K F25 B25) else none) = some (r, F9, B9) := hf
  refine lv_aload_n hx hb (D_42 W_prog_10_method_15_code_96 18 rfl rfl) rfl (lv_at hl 0 rfl) ?_
  refine lv_iload_n hx hb (D_27 W_prog_10_method_15_code_96 19 rfl rfl) rfl (lv_at hl 1 rfl) ?_
  refine lv_iload_n hx hb (D_29 W_prog_10_method_15_code_96 20 rfl rfl) rfl (lv_at hl 2 rfl) ?_
  obtain ⟨g24, hf⟩ := gif hf
  obtain ⟨r25, F25, B25, hc25, hf⟩ := gbind hf
  refine va_callv (va_runV (As := [.int (iI l1), .int (iI l3)]) (rest := []) ⟨hx, hb, hml, hown, hts⟩ (c_SoundFile_endSound (l := l) hc25) (cwV 2 hts (gdV k_8_122 k_8_124 ks_110 k_1_23 k_8_125) rfl rfl rfl (by decide +kernel) ⟨Nat.le_of_ble_eq_true rfl, Nat.le_of_ble_eq_true rfl⟩) (zPV X hZ hS (ci := 8) g24.1 g24.2 (r := (RX8, TX8, 15)) rfl [.int (iI l1), .int (iI l3)]) rfl rfl hl.1 rfl (lv_room (Nat.le_of_ble_eq_true rfl)) (D_182 W_prog_10_method_15_code_96 21 rfl rfl rfl) ⟨Nat.le_of_ble_eq_true rfl, Nat.le_of_ble_eq_true rfl⟩) hS (fun q _ h => zAin X hS q h) (zAin X hS) (fun u25 t25 H25 locs25 ht25 hv25 hw25 hB25 hz25 hk25 hS25 => ?_)
  have hZ25 := zBack X ht25 hB25
  exact b_SoundFile_loadMessage_120 X hf hZ25 hS25 (lv_sub hl [] rfl)

def f_SoundFile_loadMessage_100 (K : zK) (l4 : Int) (l0 : Int) (l1 : Int) (l3 : Int) (F : zF) (B : zB) : zO := if r32 l4 then (if l4 = 8 then f_SoundFile_loadMessage_114 K l0 l1 l3 F B else (if l4 = 9 then f_SoundFile_loadMessage_114 K l0 l1 l3 F B else f_SoundFile_loadMessage_120 K F B)) else none
set_option maxHeartbeats 4000000 in
set_option maxRecDepth 100000 in
theorem b_SoundFile_loadMessage_100 {D : va_G} {ca : Nat → ClassId} {ad : Nat → Int → Nat → Nat} {L : List Nat} {aS vS : Nat → Nat} {A : Nat → Prop} {p : Program} {l : Launch} {e : Env} {s : State} {m : MethodId} {args : Array Value} {below : List Frame} {meth : Method} {c : Code} {K : zK} {r : Int} {F9 : zF} {B9 : zB} (X : zX D ca L aS vS A p s m args meth c prog_10_method_15_code 6 (Option.none : Option Jvm.ClassFile.FieldType) "StaveHouse$SoundFile") {l4 : Int} {l0 : Int} {l1 : Int} {l3 : Int} {F : zF} {B : zB} {H : Heap} {locs : List Loc} {ls : Array Slot} (hf : f_SoundFile_loadMessage_100 K l4 l0 l1 l3 F B = some (r, F9, B9)) (hZ : zH D ca ad lnC K.2 L F B A H) (hS : va_S A s.heap H locs) (hl : lv_has ls 6 [(4, .int (iI l4)), (0, .ref (ad 8 l0 0)), (1, .int (iI l1)), (3, .int (iI l3))]) : W p l e ({ frames := 3, cells := 0, slots := 0, locals := 63 } : Room) s m args below meth c H locs 0 0 (MQ below (Q_SoundFile_loadMessage K D ca ad L r F9 B9 A) args s 0 0 A) (F0 m 100 ls []) := by
  obtain ⟨hx, hb, hr, hml, hown, hts, hlk, hK, hA, hL, hX⟩ := id X
  replace hf : (if r32 l4 then (if l4 = 8 then f_SoundFile_loadMessage_114 K l0 l1 l3 F B else (if l4 = 9 then f_SoundFile_loadMessage_114 K l0 l1 l3 F B else f_SoundFile_loadMessage_120 K F B)) else none) = some (r, F9, B9) := hf
  refine lv_iload hx hb (D_21 W_prog_10_method_15_code_96 4 rfl rfl) (lv_at hl 0 rfl) ?_
  refine lv_bipush (v := iI 8) hx hb (D_16 W_prog_10_method_15_code_96 6 rfl rfl rfl) (by decide) ?_
  obtain ⟨g21, hf⟩ := gif hf
  refine zeq (tgt := 114) hx hb g21 (by decide) (D_159 W_prog_10_method_15_code_96 8 rfl rfl rfl) (by decide) (fun h22 => ?_) (fun h22 => ?_)
  · replace hf := gpos hf h22
    exact b_SoundFile_loadMessage_114 X hf hZ hS (lv_sub hl [1, 2, 3] rfl)
  · replace hf := gneg hf h22
    refine lv_iload hx hb (D_21 W_prog_10_method_15_code_96 11 rfl rfl) (lv_at hl 0 rfl) ?_
    refine lv_bipush (v := iI 9) hx hb (D_16 W_prog_10_method_15_code_96 13 rfl rfl rfl) (by decide) ?_
    refine zne (tgt := 120) hx hb g21 (by decide) (D_160 W_prog_10_method_15_code_96 15 rfl rfl rfl) (by decide) (fun h23 => ?_) (fun h23 => ?_)
    · replace hf := gneg hf h23
      exact b_SoundFile_loadMessage_120 X hf hZ hS (lv_sub hl [] rfl)
    · replace hf := gpos hf h23
      exact b_SoundFile_loadMessage_114 X hf hZ hS (lv_sub hl [1, 2, 3] rfl)

def f_SoundFile_loadMessage_62 (K : zK)  (F : zF) (B : zB) : zO := some (0, F, B)
set_option maxHeartbeats 4000000 in
set_option maxRecDepth 100000 in
theorem b_SoundFile_loadMessage_62 {D : va_G} {ca : Nat → ClassId} {ad : Nat → Int → Nat → Nat} {L : List Nat} {aS vS : Nat → Nat} {A : Nat → Prop} {p : Program} {l : Launch} {e : Env} {s : State} {m : MethodId} {args : Array Value} {below : List Frame} {meth : Method} {c : Code} {K : zK} {r : Int} {F9 : zF} {B9 : zB} (X : zX D ca L aS vS A p s m args meth c prog_10_method_15_code 6 (Option.none : Option Jvm.ClassFile.FieldType) "StaveHouse$SoundFile")  {F : zF} {B : zB} {H : Heap} {locs : List Loc} {ls : Array Slot} (hf : f_SoundFile_loadMessage_62 K  F B = some (r, F9, B9)) (hZ : zH D ca ad lnC K.2 L F B A H) (hS : va_S A s.heap H locs) (hl : lv_has ls 6 []) : W p l e ({ frames := 3, cells := 0, slots := 0, locals := 63 } : Room) s m args below meth c H locs 0 0 (MQ below (Q_SoundFile_loadMessage K D ca ad L r F9 B9 A) args s 0 0 A) (F0 m 62 ls []) := by
  obtain ⟨hx, hb, hr, hml, hown, hts, hlk, hK, hA, hL, hX⟩ := id X
  replace hf : (some (0, F, B)) = some (r, F9, B9) := hf
  cases hf
  exact W.vret hx hb hr (fun t ht hW => ⟨⟨(), rfl, trivial, by rw [ht]; exact hZ, va_K.moved hW.alike hK⟩, hS.F ht⟩) hS.2.2 (D_177 W_prog_10_method_15_code_32 30 rfl rfl) hlk

def f_SoundFile_loadMessage_23 (K : zK) (l4 : Int) (l0 : Int) (l1 : Int) (F : zF) (B : zB) : zO := if 0 ≤ l0 ∧ l0 < K.2 8 then if r32 (F 8 l0 7) then (if (F 8 l0 7) = 0 then if r32 l4 then (if l4 = 12 then if 0 ≤ (F 8 l0 8) ∧ (F 8 l0 8) < 8 then if r32 (B 8 l0 3 (F 8 l0 8)) then (if (B 8 l0 3 (F 8 l0 8)) = (-1) then f_SoundFile_loadMessage_62 K F (zup4 B 8 l0 3 (F 8 l0 8) (zrm l1 4)) else f_SoundFile_loadMessage_62 K F B) else none else none else f_SoundFile_loadMessage_62 K F B) else none else f_SoundFile_loadMessage_62 K F B) else none else none
set_option maxHeartbeats 4000000 in
set_option maxRecDepth 100000 in
theorem b_SoundFile_loadMessage_23 {D : va_G} {ca : Nat → ClassId} {ad : Nat → Int → Nat → Nat} {L : List Nat} {aS vS : Nat → Nat} {A : Nat → Prop} {p : Program} {l : Launch} {e : Env} {s : State} {m : MethodId} {args : Array Value} {below : List Frame} {meth : Method} {c : Code} {K : zK} {r : Int} {F9 : zF} {B9 : zB} (X : zX D ca L aS vS A p s m args meth c prog_10_method_15_code 6 (Option.none : Option Jvm.ClassFile.FieldType) "StaveHouse$SoundFile") {l4 : Int} {l0 : Int} {l1 : Int} {F : zF} {B : zB} {H : Heap} {locs : List Loc} {ls : Array Slot} (hf : f_SoundFile_loadMessage_23 K l4 l0 l1 F B = some (r, F9, B9)) (hZ : zH D ca ad lnC K.2 L F B A H) (hS : va_S A s.heap H locs) (hl : lv_has ls 6 [(4, .int (iI l4)), (0, .ref (ad 8 l0 0)), (1, .int (iI l1))]) : W p l e ({ frames := 3, cells := 0, slots := 0, locals := 63 } : Room) s m args below meth c H locs 0 0 (MQ below (Q_SoundFile_loadMessage K D ca ad L r F9 B9 A) args s 0 0 A) (F0 m 23 ls []) := by
  obtain ⟨hx, hb, hr, hml, hown, hts, hlk, hK, hA, hL, hX⟩ := id X
  replace hf : (if 0 ≤ l0 ∧ l0 < K.2 8 then if r32 (F 8 l0 7) then (if (F 8 l0 7) = 0 then if r32 l4 then (if l4 = 12 then if 0 ≤ (F 8 l0 8) ∧ (F 8 l0 8) < 8 then if r32 (B 8 l0 3 (F 8 l0 8)) then (if (B 8 l0 3 (F 8 l0 8)) = (-1) then f_SoundFile_loadMessage_62 K F (zup4 B 8 l0 3 (F 8 l0 8) (zrm l1 4)) else f_SoundFile_loadMessage_62 K F B) else none else none else f_SoundFile_loadMessage_62 K F B) else none else f_SoundFile_loadMessage_62 K F B) else none else none) = some (r, F9, B9) := hf
  refine lv_aload_n hx hb (D_42 W_prog_10_method_15_code_0 23 rfl rfl) rfl (lv_at hl 1 rfl) ?_
  obtain ⟨g12, hf⟩ := gif hf
  refine zget (ci := 8) (C := RX8) (T := TX8) (v := .int (iI (F 8 l0 7))) (k := 7) hx hb hts inW_8 hown hK hZ g12.1 g12.2 rfl (by decide) k_7_231 rfl (D_180 W_prog_10_method_15_code_0 24 rfl rfl rfl) ?_
  obtain ⟨g13, hf⟩ := gif hf
  refine z0ne (tgt := 62) hx hb g13 (D_154 W_prog_10_method_15_code_0 27 rfl rfl rfl) (by decide) (fun h14 => ?_) (fun h14 => ?_)
  · replace hf := gneg hf h14
    exact b_SoundFile_loadMessage_62 X hf hZ hS (lv_sub hl [] rfl)
  · replace hf := gpos hf h14
    refine lv_iload hx hb (D_21 W_prog_10_method_15_code_0 30 rfl rfl) (lv_at hl 0 rfl) ?_
    refine lv_bipush (v := iI 12) hx hb (D_16 W_prog_10_method_15_code_32 0 rfl rfl rfl) (by decide) ?_
    obtain ⟨g15, hf⟩ := gif hf
    refine zne (tgt := 62) hx hb g15 (by decide) (D_160 W_prog_10_method_15_code_32 2 rfl rfl rfl) (by decide) (fun h16 => ?_) (fun h16 => ?_)
    · replace hf := gneg hf h16
      exact b_SoundFile_loadMessage_62 X hf hZ hS (lv_sub hl [] rfl)
    · replace hf := gpos hf h16
      refine lv_aload_n hx hb (D_42 W_prog_10_method_15_code_32 5 rfl rfl) rfl (lv_at hl 1 rfl) ?_
      refine zget (ci := 8) (C := RX8) (T := TX8) (v := .ref (ad 8 l0 (3 + 1))) (k := 3) hx hb hts inW_8 hown hK hZ g12.1 g12.2 rfl (by decide) k_7_226 rfl (D_180 W_prog_10_method_15_code_32 6 rfl rfl rfl) ?_
      refine lv_aload_n hx hb (D_42 W_prog_10_method_15_code_32 9 rfl rfl) rfl (lv_at hl 1 rfl) ?_
      refine zget (ci := 8) (C := RX8) (T := TX8) (v := .int (iI (F 8 l0 8))) (k := 8) hx hb hts inW_8 hown hK hZ g12.1 g12.2 rfl (by decide) k_7_232 rfl (D_180 W_prog_10_method_15_code_32 10 rfl rfl rfl) ?_
      obtain ⟨g17, hf⟩ := gif hf
      refine zald (ci := 8) (k := 3) hx hb hK rfl hZ g12.1 g12.2 rfl (Nat.le_of_ble_eq_true rfl) g17.1 g17.2 (D_46 W_prog_10_method_15_code_32 13 rfl rfl) ?_
      refine lv_iconst (v := iI (-1)) hx hb (D_2 W_prog_10_method_15_code_32 14 rfl rfl) rfl ?_
      obtain ⟨g18, hf⟩ := gif hf
      refine zne (tgt := 62) hx hb g18 (by decide) (D_160 W_prog_10_method_15_code_32 15 rfl rfl rfl) (by decide) (fun h19 => ?_) (fun h19 => ?_)
      · replace hf := gneg hf h19
        exact b_SoundFile_loadMessage_62 X hf hZ hS (lv_sub hl [] rfl)
      · replace hf := gpos hf h19
        refine lv_aload_n hx hb (D_42 W_prog_10_method_15_code_32 18 rfl rfl) rfl (lv_at hl 1 rfl) ?_
        refine zget (ci := 8) (C := RX8) (T := TX8) (v := .ref (ad 8 l0 (3 + 1))) (k := 3) hx hb hts inW_8 hown hK hZ g12.1 g12.2 rfl (by decide) k_7_226 rfl (D_180 W_prog_10_method_15_code_32 19 rfl rfl rfl) ?_
        refine lv_aload_n hx hb (D_42 W_prog_10_method_15_code_32 22 rfl rfl) rfl (lv_at hl 1 rfl) ?_
        refine zget (ci := 8) (C := RX8) (T := TX8) (v := .int (iI (F 8 l0 8))) (k := 8) hx hb hts inW_8 hown hK hZ g12.1 g12.2 rfl (by decide) k_7_232 rfl (D_180 W_prog_10_method_15_code_32 23 rfl rfl rfl) ?_
        refine lv_iload_n hx hb (D_27 W_prog_10_method_15_code_32 26 rfl rfl) rfl (lv_at hl 2 rfl) ?_
        refine lv_iconst (v := iI 4) hx hb (D_7 W_prog_10_method_15_code_32 27 rfl rfl) rfl ?_
        refine zrm_r hx hb (by decide) (D_112 W_prog_10_method_15_code_32 28 rfl rfl) ?_
        refine zast (ci := 8) (k := 3) hx hb hK rfl hZ hS g12.1 g12.2 rfl (Nat.le_of_ble_eq_true rfl) g17.1 g17.2 (D_79 W_prog_10_method_15_code_32 29 rfl rfl) (fun H20 locs20 hZ20 hS20 => ?_)
        exact b_SoundFile_loadMessage_62 X hf hZ20 hS20 (lv_sub hl [] rfl)

def f_SoundFile_loadMessage (K : zK) (l0 : Int) (l1 : Int) (l2 : Int) (l3 : Int) (F : zF) (B : zB) : zO := if 0 ≤ l0 ∧ l0 < K.2 8 then if r32 (zdv (F 8 l0 9) 16) then (if (zdv (F 8 l0 9) 16) = 12 then f_SoundFile_loadMessage_23 K (zdv (F 8 l0 9) 16) l0 l1 F B else (if (zdv (F 8 l0 9) 16) = 13 then f_SoundFile_loadMessage_23 K (zdv (F 8 l0 9) 16) l0 l1 F B else zbind (f_SoundFile_takeData K l0 F B) (fun r5 F5 B5 => if r32 (F5 8 l0 7) then (if (F5 8 l0 7) = 0 then (if (zdv (F 8 l0 9) 16) = 9 then if r32 r5 then (if r5 ≤ 0 then f_SoundFile_loadMessage_100 K (zdv (F 8 l0 9) 16) l0 l1 l3 F5 B5 else zbind (f_SoundFile_beginSound K l0 l1 r5 l2 F5 B5) (fun r11 F11 B11 => f_SoundFile_loadMessage_120 K F11 B11)) else none else f_SoundFile_loadMessage_100 K (zdv (F 8 l0 9) 16) l0 l1 l3 F5 B5) else some (0, F5, B5)) else none))) else none else none
set_option maxHeartbeats 4000000 in
set_option maxRecDepth 100000 in
theorem c_SoundFile_loadMessage {l : Launch} {D : va_G} {ca : Nat → ClassId} {ad : Nat → Int → Nat → Nat} {L : List Nat} {aS vS : Nat → Nat} {sz : Nat} {K : zK}  {l0 : Int} {l1 : Int} {l2 : Int} {l3 : Int} {F F9 : zF} {B B9 : zB} {r : Int} (hf : f_SoundFile_loadMessage K l0 l1 l2 l3 F B = some (r, F9, B9)) : Met l ({ cls := "StaveHouse$SoundFile", name := "loadMessage", desc := "(III)V" } : Jvm.MethodName) (Cond.code ({ cls := "StaveHouse$SoundFile", name := "loadMessage", desc := "(III)V" } : Jvm.MethodName) prog_10_method_15_code 6 (Option.none : Option Jvm.ClassFile.FieldType) :: wAll) ({ frames := 3, cells := 0, slots := 0, locals := 63 } : Room) (va_Pc [.ref (ad 8 l0 0), .int (iI l1), .int (iI l2), .int (iI l3)] (zPre D ca ad lnC K.2 L aS vS F B sz)) (Q_SoundFile_loadMessage K D ca ad L r F9 B9 (zA L sz)) 0 0 (zA L sz) := by
  refine zMet (Qc := Q_SoundFile_loadMessage K D ca ad L r F9 B9) (lv := [(0, .ref (ad 8 l0 0)), (1, .int (iI l1)), (2, .int (iI l2)), (3, .int (iI l3))]) (by decide) (Nat.le_of_ble_eq_true rfl) rfl (fun A p e s m below meth c ls X hZ hS hl => ?_)
  obtain ⟨hx, hb, hr, hml, hown, hts, hlk, hK, hA, hL, hX⟩ := id X
  replace hf : (if 0 ≤ l0 ∧ l0 < K.2 8 then if r32 (zdv (F 8 l0 9) 16) then (if (zdv (F 8 l0 9) 16) = 12 then f_SoundFile_loadMessage_23 K (zdv (F 8 l0 9) 16) l0 l1 F B else (if (zdv (F 8 l0 9) 16) = 13 then f_SoundFile_loadMessage_23 K (zdv (F 8 l0 9) 16) l0 l1 F B else zbind (f_SoundFile_takeData K l0 F B) (fun r5 F5 B5 => if r32 (F5 8 l0 7) then (if (F5 8 l0 7) = 0 then (if (zdv (F 8 l0 9) 16) = 9 then if r32 r5 then (if r5 ≤ 0 then f_SoundFile_loadMessage_100 K (zdv (F 8 l0 9) 16) l0 l1 l3 F5 B5 else zbind (f_SoundFile_beginSound K l0 l1 r5 l2 F5 B5) (fun r11 F11 B11 => f_SoundFile_loadMessage_120 K F11 B11)) else none else f_SoundFile_loadMessage_100 K (zdv (F 8 l0 9) 16) l0 l1 l3 F5 B5) else some (0, F5, B5)) else none))) else none else none) = some (r, F9, B9) := hf
  refine lv_aload_n hx hb (D_42 W_prog_10_method_15_code_0 0 rfl rfl) rfl (lv_at hl 0 rfl) ?_
  obtain ⟨g1, hf⟩ := gif hf
  refine zget (ci := 8) (C := RX8) (T := TX8) (v := .int (iI (F 8 l0 9))) (k := 9) hx hb hts inW_8 hown hK hZ g1.1 g1.2 rfl (by decide) k_7_233 rfl (D_180 W_prog_10_method_15_code_0 1 rfl rfl rfl) ?_
  refine lv_bipush (v := iI 16) hx hb (D_16 W_prog_10_method_15_code_0 4 rfl rfl rfl) (by decide) ?_
  refine zdv_r hx hb (by decide) (D_108 W_prog_10_method_15_code_0 6 rfl rfl) ?_
  refine lv_istore (lv' := [(4, .int (iI (zdv (F 8 l0 9) 16))), (0, .ref (ad 8 l0 0)), (1, .int (iI l1)), (2, .int (iI l2)), (3, .int (iI l3))]) hx hb (D_54 W_prog_10_method_15_code_0 7 rfl rfl) hl (by decide) rfl (fun ls hl => ?_)
  refine lv_iload hx hb (D_21 W_prog_10_method_15_code_0 9 rfl rfl) (lv_at hl 0 rfl) ?_
  refine lv_bipush (v := iI 12) hx hb (D_16 W_prog_10_method_15_code_0 11 rfl rfl rfl) (by decide) ?_
  obtain ⟨g2, hf⟩ := gif hf
  refine zeq (tgt := 23) hx hb g2 (by decide) (D_159 W_prog_10_method_15_code_0 13 rfl rfl rfl) (by decide) (fun h3 => ?_) (fun h3 => ?_)
  · replace hf := gpos hf h3
    exact b_SoundFile_loadMessage_23 X hf hZ hS (lv_sub hl [0, 1, 2] rfl)
  · replace hf := gneg hf h3
    refine lv_iload hx hb (D_21 W_prog_10_method_15_code_0 16 rfl rfl) (lv_at hl 0 rfl) ?_
    refine lv_bipush (v := iI 13) hx hb (D_16 W_prog_10_method_15_code_0 18 rfl rfl rfl) (by decide) ?_
    refine zne (tgt := 63) hx hb g2 (by decide) (D_160 W_prog_10_method_15_code_0 20 rfl rfl rfl) (by decide) (fun h4 => ?_) (fun h4 => ?_)
    · replace hf := gneg hf h4
      refine lv_aload_n hx hb (D_42 W_prog_10_method_15_code_32 31 rfl rfl) rfl (lv_at hl 1 rfl) ?_
      obtain ⟨r5, F5, B5, hc5, hf⟩ := gbind hf
      refine va_calli (va_runV (As := []) (rest := []) ⟨hx, hb, hml, hown, hts⟩ (c_SoundFile_takeData (l := l) hc5) (cwV 0 hts (gdV k_8_92 k_8_94 ks_104 k_1_23 k_8_95) rfl rfl rfl (by decide +kernel) ⟨Nat.le_of_ble_eq_true rfl, Nat.le_of_ble_eq_true rfl⟩) (zPV X hZ hS (ci := 8) g1.1 g1.2 (r := (RX8, TX8, 15)) rfl []) rfl rfl hl.1 rfl (lv_room (Nat.le_of_ble_eq_true rfl)) (D_182 W_prog_10_method_15_code_64 0 rfl rfl rfl) ⟨Nat.le_of_ble_eq_true rfl, Nat.le_of_ble_eq_true rfl⟩) hS (fun q _ h => zAin X hS q h) (zAin X hS) (fun p5 u5 t5 H5 locs5 ht5 hv5 hw5 hB5 hz5 hk5 hS5 => ?_)
      have hZ5 := zBack X ht5 hB5
      subst hw5
      refine lv_istore (lv' := [(5, .int (iI r5)), (4, .int (iI (zdv (F 8 l0 9) 16))), (0, .ref (ad 8 l0 0)), (1, .int (iI l1)), (2, .int (iI l2)), (3, .int (iI l3))]) hx hb (D_54 W_prog_10_method_15_code_64 3 rfl rfl) hl (by decide) rfl (fun ls hl => ?_)
      refine lv_aload_n hx hb (D_42 W_prog_10_method_15_code_64 5 rfl rfl) rfl (lv_at hl 2 rfl) ?_
      refine zget (ci := 8) (C := RX8) (T := TX8) (v := .int (iI (F5 8 l0 7))) (k := 7) hx hb hts inW_8 hown hK hZ5 g1.1 g1.2 rfl (by decide) k_7_231 rfl (D_180 W_prog_10_method_15_code_64 6 rfl rfl rfl) ?_
      obtain ⟨g6, hf⟩ := gif hf
      refine z0eq (tgt := 77) hx hb g6 (D_153 W_prog_10_method_15_code_64 9 rfl rfl rfl) (by decide) (fun h7 => ?_) (fun h7 => ?_)
      · replace hf := gpos hf h7
        refine lv_iload hx hb (D_21 W_prog_10_method_15_code_64 13 rfl rfl) (lv_at hl 1 rfl) ?_
        refine lv_bipush (v := iI 9) hx hb (D_16 W_prog_10_method_15_code_64 15 rfl rfl rfl) (by decide) ?_
        refine zne (tgt := 100) hx hb g2 (by decide) (D_160 W_prog_10_method_15_code_64 17 rfl rfl rfl) (by decide) (fun h8 => ?_) (fun h8 => ?_)
        · replace hf := gneg hf h8
          exact b_SoundFile_loadMessage_100 X hf hZ5 hS5 (lv_sub hl [1, 2, 3, 5] rfl)
        · replace hf := gpos hf h8
          refine lv_iload hx hb (D_21 W_prog_10_method_15_code_64 20 rfl rfl) (lv_at hl 0 rfl) ?_
          obtain ⟨g9, hf⟩ := gif hf
          refine z0le (tgt := 100) hx hb g9 (D_158 W_prog_10_method_15_code_64 22 rfl rfl rfl) (by decide) (fun h10 => ?_) (fun h10 => ?_)
          · replace hf := gpos hf h10
            exact b_SoundFile_loadMessage_100 X hf hZ5 hS5 (lv_sub hl [1, 2, 3, 5] rfl)
          · replace hf := gneg hf h10
            refine lv_aload_n hx hb (D_42 W_prog_10_method_15_code_64 25 rfl rfl) rfl (lv_at hl 2 rfl) ?_
            refine lv_iload_n hx hb (D_27 W_prog_10_method_15_code_64 26 rfl rfl) rfl (lv_at hl 3 rfl) ?_
            refine lv_iload hx hb (D_21 W_prog_10_method_15_code_64 27 rfl rfl) (lv_at hl 0 rfl) ?_
            refine lv_iload_n hx hb (D_28 W_prog_10_method_15_code_64 29 rfl rfl) rfl (lv_at hl 4 rfl) ?_
            obtain ⟨r11, F11, B11, hc11, hf⟩ := gbind hf
            refine va_callv (va_runV (As := [.int (iI l1), .int (iI r5), .int (iI l2)]) (rest := []) ⟨hx, hb, hml, hown, hts⟩ (c_SoundFile_beginSound (l := l) hc11) (cwV 3 hts (gdV k_8_117 k_8_119 ks_109 k_1_23 k_8_120) rfl rfl rfl (by decide +kernel) ⟨Nat.le_of_ble_eq_true rfl, Nat.le_of_ble_eq_true rfl⟩) (zPV X hZ5 hS5 (ci := 8) g1.1 g1.2 (r := (RX8, TX8, 15)) rfl [.int (iI l1), .int (iI r5), .int (iI l2)]) rfl rfl hl.1 rfl (lv_room (Nat.le_of_ble_eq_true rfl)) (D_182 W_prog_10_method_15_code_64 30 rfl rfl rfl) ⟨Nat.le_of_ble_eq_true rfl, Nat.le_of_ble_eq_true rfl⟩) hS5 (fun q _ h => zAin X hS5 q h) (zAin X hS5) (fun u11 t11 H11 locs11 ht11 hv11 hw11 hB11 hz11 hk11 hS11 => ?_)
            have hZ11 := zBack X ht11 hB11
            refine lv_goto (tgt := 120) hx hb (D_167 W_prog_10_method_15_code_96 1 rfl rfl rfl) (by decide) ?_
            exact b_SoundFile_loadMessage_120 X hf hZ11 hS11 (lv_sub hl [] rfl)
      · replace hf := gneg hf h7
        cases hf
        exact W.vret hx hb hr (fun t ht hW => ⟨⟨(), rfl, trivial, by rw [ht]; exact hZ5, va_K.moved hW.alike hK⟩, hS5.F ht⟩) hS5.2.2 (D_177 W_prog_10_method_15_code_64 12 rfl rfl) hlk
    · replace hf := gpos hf h4
      exact b_SoundFile_loadMessage_23 X hf hZ hS (lv_sub hl [0, 1, 2] rfl)

abbrev Q_Scribe_gatherEvent (K : zK) (D : va_G) (ca : Nat → ClassId) (ad : Nat → Int → Nat → Nat) (L : List Nat) (r : Int) (F : zF) (B : zB) (A : Nat → Prop) : Array Value → State → Outcome → State → Prop := va_Qv (S := Unit) (fun _ => True) (fun _ => zPo D ca ad lnC K.2 L F B A) A
def f_Scribe_gatherEvent_195 (K : zK)  (F : zF) (B : zB) : zO := some (0, F, B)
set_option maxHeartbeats 4000000 in
set_option maxRecDepth 100000 in
theorem b_Scribe_gatherEvent_195 {D : va_G} {ca : Nat → ClassId} {ad : Nat → Int → Nat → Nat} {L : List Nat} {aS vS : Nat → Nat} {A : Nat → Prop} {p : Program} {l : Launch} {e : Env} {s : State} {m : MethodId} {args : Array Value} {below : List Frame} {meth : Method} {c : Code} {K : zK} {r : Int} {F9 : zF} {B9 : zB} (X : zX D ca L aS vS A p s m args meth c prog_9_method_6_code 4 (Option.none : Option Jvm.ClassFile.FieldType) "StaveHouse$Scribe")  {F : zF} {B : zB} {H : Heap} {locs : List Loc} {ls : Array Slot} (hf : f_Scribe_gatherEvent_195 K  F B = some (r, F9, B9)) (hZ : zH D ca ad lnC K.2 L F B A H) (hS : va_S A s.heap H locs) (hl : lv_has ls 4 []) : W p l e ({ frames := 2, cells := 0, slots := 0, locals := 37 } : Room) s m args below meth c H locs 0 0 (MQ below (Q_Scribe_gatherEvent K D ca ad L r F9 B9 A) args s 0 0 A) (F0 m 195 ls []) := by
  obtain ⟨hx, hb, hr, hml, hown, hts, hlk, hK, hA, hL, hX⟩ := id X
  replace hf : (some (0, F, B)) = some (r, F9, B9) := hf
  cases hf
  exact W.vret hx hb hr (fun t ht hW => ⟨⟨(), rfl, trivial, by rw [ht]; exact hZ, va_K.moved hW.alike hK⟩, hS.F ht⟩) hS.2.2 (D_177 W_prog_9_method_6_code_192 3 rfl rfl) hlk

def f_Scribe_gatherEvent_158 (K : zK) (l0 : Int) (l2 : Int) (F : zF) (B : zB) : zO := if 0 ≤ l0 ∧ l0 < K.2 7 then if r32 (F 7 l0 7) then if r32 l2 then (if l2 ≤ (F 7 l0 7) then f_Scribe_gatherEvent_195 K F B else if 0 ≤ (F 7 l0 0) ∧ (F 7 l0 0) < K.2 8 then if 0 ≤ (F 7 l0 7) ∧ (F 7 l0 7) < 400 then zbind (f_Scribe_gridPlace K l0 (B 8 (F 7 l0 0) 224 (F 7 l0 7)) F B) (fun r41 F41 B41 => if r64 (F 7 l0 6) then if r64 r41 then f_Scribe_gatherEvent_195 K (zup3 F41 7 l0 6 (zmin (F 7 l0 6) r41)) B41 else none else none) else none else none) else none else none else none
set_option maxHeartbeats 4000000 in
set_option maxRecDepth 100000 in
theorem b_Scribe_gatherEvent_158 {D : va_G} {ca : Nat → ClassId} {ad : Nat → Int → Nat → Nat} {L : List Nat} {aS vS : Nat → Nat} {A : Nat → Prop} {p : Program} {l : Launch} {e : Env} {s : State} {m : MethodId} {args : Array Value} {below : List Frame} {meth : Method} {c : Code} {K : zK} {r : Int} {F9 : zF} {B9 : zB} (X : zX D ca L aS vS A p s m args meth c prog_9_method_6_code 4 (Option.none : Option Jvm.ClassFile.FieldType) "StaveHouse$Scribe") {l0 : Int} {l2 : Int} {F : zF} {B : zB} {H : Heap} {locs : List Loc} {ls : Array Slot} (hf : f_Scribe_gatherEvent_158 K l0 l2 F B = some (r, F9, B9)) (hZ : zH D ca ad lnC K.2 L F B A H) (hS : va_S A s.heap H locs) (hl : lv_has ls 4 [(0, .ref (ad 7 l0 0)), (2, .int (iI l2))]) : W p l e ({ frames := 2, cells := 0, slots := 0, locals := 37 } : Room) s m args below meth c H locs 0 0 (MQ below (Q_Scribe_gatherEvent K D ca ad L r F9 B9 A) args s 0 0 A) (F0 m 158 ls []) := by
  obtain ⟨hx, hb, hr, hml, hown, hts, hlk, hK, hA, hL, hX⟩ := id X
  replace hf : (if 0 ≤ l0 ∧ l0 < K.2 7 then if r32 (F 7 l0 7) then if r32 l2 then (if l2 ≤ (F 7 l0 7) then f_Scribe_gatherEvent_195 K F B else if 0 ≤ (F 7 l0 0) ∧ (F 7 l0 0) < K.2 8 then if 0 ≤ (F 7 l0 7) ∧ (F 7 l0 7) < 400 then zbind (f_Scribe_gridPlace K l0 (B 8 (F 7 l0 0) 224 (F 7 l0 7)) F B) (fun r41 F41 B41 => if r64 (F 7 l0 6) then if r64 r41 then f_Scribe_gatherEvent_195 K (zup3 F41 7 l0 6 (zmin (F 7 l0 6) r41)) B41 else none else none) else none else none) else none else none else none) = some (r, F9, B9) := hf
  refine lv_aload_n hx hb (D_42 W_prog_9_method_6_code_128 30 rfl rfl) rfl (lv_at hl 0 rfl) ?_
  obtain ⟨g35, hf⟩ := gif hf
  refine zget (ci := 7) (C := RX7) (T := TX7) (v := .int (iI (F 7 l0 7))) (k := 7) hx hb hts inW_7 hown hK hZ g35.1 g35.2 rfl (by decide) k_2_105 rfl (D_180 W_prog_9_method_6_code_128 31 rfl rfl rfl) ?_
  refine lv_iload_n hx hb (D_28 W_prog_9_method_6_code_160 2 rfl rfl) rfl (lv_at hl 1 rfl) ?_
  obtain ⟨g36, hf⟩ := gif hf
  obtain ⟨g37, hf⟩ := gif hf
  refine zge (tgt := 195) hx hb g36 g37 (D_162 W_prog_9_method_6_code_160 3 rfl rfl rfl) (by decide) (fun h38 => ?_) (fun h38 => ?_)
  · replace hf := gpos hf h38
    exact b_Scribe_gatherEvent_195 X hf hZ hS (lv_sub hl [] rfl)
  · replace hf := gneg hf h38
    refine lv_aload_n hx hb (D_42 W_prog_9_method_6_code_160 6 rfl rfl) rfl (lv_at hl 0 rfl) ?_
    refine lv_aload_n hx hb (D_42 W_prog_9_method_6_code_160 7 rfl rfl) rfl (lv_at hl 0 rfl) ?_
    refine zget (ci := 7) (C := RX7) (T := TX7) (v := .long (lI (F 7 l0 6))) (k := 6) hx hb hts inW_7 hown hK hZ g35.1 g35.2 rfl (by decide) k_2_104 rfl (D_180 W_prog_9_method_6_code_160 8 rfl rfl rfl) ?_
    refine lv_aload_n hx hb (D_42 W_prog_9_method_6_code_160 11 rfl rfl) rfl (lv_at hl 0 rfl) ?_
    refine lv_aload_n hx hb (D_42 W_prog_9_method_6_code_160 12 rfl rfl) rfl (lv_at hl 0 rfl) ?_
    refine zget (ci := 7) (C := RX7) (T := TX7) (v := va_rf (zrf ad 8 (F 7 l0 0))) (k := 0) hx hb hts inW_7 hown hK hZ g35.1 g35.2 rfl (by decide) k_2_98 rfl (D_180 W_prog_9_method_6_code_160 13 rfl rfl rfl) ?_
    obtain ⟨g39, hf⟩ := gif hf
    refine zunrf g39.1 ?_
    refine zget (ci := 8) (C := RX8) (T := TX8) (v := .ref (ad 8 (F 7 l0 0) (1 + 1))) (k := 1) hx hb hts inW_8 hown hK hZ g39.1 g39.2 rfl (by decide) k_7_221 rfl (D_180 W_prog_9_method_6_code_160 16 rfl rfl rfl) ?_
    refine lv_iconst (v := iI 4) hx hb (D_7 W_prog_9_method_6_code_160 19 rfl rfl) rfl ?_
    refine zaldQ (t := 1) (ci := 8) (k := 1) hx hb hK rfl hZ g39.1 g39.2 rfl (Nat.le_of_ble_eq_true rfl) (by decide) (by decide) (D_50 W_prog_9_method_6_code_160 20 rfl rfl) ?_
    refine W.eq (g2 := F0 m 181 ls [.ref (ad 8 (F 7 l0 0) (224 + 1)), .ref (ad 7 l0 0), .long (lI (F 7 l0 6)), .ref (ad 7 l0 0)]) rfl ?_
    refine lv_aload_n hx hb (D_42 W_prog_9_method_6_code_160 21 rfl rfl) rfl (lv_at hl 0 rfl) ?_
    refine zget (ci := 7) (C := RX7) (T := TX7) (v := .int (iI (F 7 l0 7))) (k := 7) hx hb hts inW_7 hown hK hZ g35.1 g35.2 rfl (by decide) k_2_105 rfl (D_180 W_prog_9_method_6_code_160 22 rfl rfl rfl) ?_
    obtain ⟨g40, hf⟩ := gif hf
    refine zlald (ci := 8) (k := 224) hx hb hK rfl hZ g39.1 g39.2 rfl (Nat.le_of_ble_eq_true rfl) g40.1 g40.2 (D_47 W_prog_9_method_6_code_160 25 rfl rfl) ?_
    obtain ⟨r41, F41, B41, hc41, hf⟩ := gbind hf
    refine va_calll (va_runV (As := [.long (lI (B 8 (F 7 l0 0) 224 (F 7 l0 7)))]) (rest := [.long (lI (F 7 l0 6)), .ref (ad 7 l0 0)]) ⟨hx, hb, hml, hown, hts⟩ (c_Scribe_gridPlace (l := l) hc41) (cwV 1 hts (gdV k_8_156 k_8_158 ks_114 k_1_7 k_8_159) rfl rfl rfl (by decide +kernel) ⟨Nat.le_of_ble_eq_true rfl, Nat.le_of_ble_eq_true rfl⟩) (zPV X hZ hS (ci := 7) g35.1 g35.2 (r := (RX7, TX7, 9)) rfl [.long (lI (B 8 (F 7 l0 0) 224 (F 7 l0 7)))]) rfl rfl hl.1 rfl (lv_room (Nat.le_of_ble_eq_true rfl)) (D_182 W_prog_9_method_6_code_160 26 rfl rfl rfl) ⟨Nat.le_of_ble_eq_true rfl, Nat.le_of_ble_eq_true rfl⟩) hS (fun q _ h => zAin X hS q h) (zAin X hS) (fun p41 u41 t41 H41 locs41 ht41 hv41 hw41 hB41 hz41 hk41 hS41 => ?_)
    have hZ41 := zBack X ht41 hB41
    subst hw41
    obtain ⟨g42, hf⟩ := gif hf
    obtain ⟨g43, hf⟩ := gif hf
    refine va_mmin_long hx hb (by rw [hml]; exact hl.1.symm) hown (hts _ k_8_164) (hts _ k_5_58) (hts _ k_1_3) (hts _ k_5_59) (Nat.le_of_ble_eq_true rfl) (Nat.le_of_ble_eq_true rfl) (Nat.le_of_ble_eq_true rfl) (Nat.le_of_ble_eq_true rfl) (D_184 W_prog_9_method_6_code_160 29 rfl rfl rfl) ?_
    rw [zlmin_e g42 g43]
    refine zput (ci := 7) (C := RX7) (T := TX7) (k := 6) (v := (zmin (F 7 l0 6) r41)) (w := .long (lI (zmin (F 7 l0 6) r41))) hx hb hts inW_7 tyX7 tyX7_ok nmX7 hown hK hZ41 hS41 g35.1 g35.2 rfl (by decide) k_2_104 rfl (fun G h => congrArg (fun q => Value.long (lI q)) h) rfl rfl (zno (by decide)) (D_181 W_prog_9_method_6_code_192 0 rfl rfl rfl) (fun H44 locs44 hZ44 hS44 => ?_)
    exact b_Scribe_gatherEvent_195 X hf hZ44 hS44 (lv_sub hl [] rfl)

def f_Scribe_gatherEvent_58 (K : zK) : Nat → Int → Int → zF → zB → zO
  | 0, _, _, _, _ => none
  | n + 1, l0, l2, F, B => if 0 ≤ l0 ∧ l0 < K.2 7 then if r32 (F 7 l0 7) then if r32 l2 then (if l2 ≤ (F 7 l0 7) then f_Scribe_gatherEvent_158 K l0 l2 F B else if 0 ≤ (F 7 l0 0) ∧ (F 7 l0 0) < K.2 8 then if 0 ≤ (F 7 l0 7) ∧ (F 7 l0 7) < 400 then zbind (f_Scribe_gridPlace K l0 (B 8 (F 7 l0 0) 224 (F 7 l0 7)) F B) (fun r19 F19 B19 => if r64 r19 then if r64 (F19 7 l0 5) then (if (zcmp r19 (F19 7 l0 5)) = 0 then if 0 ≤ (F19 7 l0 0) ∧ (F19 7 l0 0) < K.2 8 then if 0 ≤ (F19 7 l0 7) ∧ (F19 7 l0 7) < 400 then zbind (f_Scribe_gridPlace K l0 (B19 8 (F19 7 l0 0) 225 (F19 7 l0 7)) F19 B19) (fun r25 F25 B25 => if r64 (F19 7 l0 6) then if r64 r25 then if 0 ≤ (F25 7 l0 0) ∧ (F25 7 l0 0) < K.2 8 then if 0 ≤ (F25 7 l0 7) ∧ (F25 7 l0 7) < 400 then if 0 ≤ (zand (B25 8 (F25 7 l0 0) 222 (F25 7 l0 7)) 127) ∧ (zand (B25 8 (F25 7 l0 0) 222 (F25 7 l0 7)) 127) < 128 then f_Scribe_gatherEvent_58 K n l0 l2 (zup3 (zup3 F25 7 l0 6 (zmax (F19 7 l0 6) r25)) 7 l0 7 ((F25 7 l0 7) + 1)) (zup4 B25 7 l0 8 (zand (B25 8 (F25 7 l0 0) 222 (F25 7 l0 7)) 127) 1) else none else none else none else none else none) else none else none else f_Scribe_gatherEvent_158 K l0 l2 F19 B19) else none else none) else none else none) else none else none else none
set_option maxHeartbeats 4000000 in
set_option maxRecDepth 100000 in
theorem b_Scribe_gatherEvent_58 {D : va_G} {ca : Nat → ClassId} {ad : Nat → Int → Nat → Nat} {L : List Nat} {aS vS : Nat → Nat} {A : Nat → Prop} {p : Program} {l : Launch} {e : Env} {s : State} {m : MethodId} {args : Array Value} {below : List Frame} {meth : Method} {c : Code} {K : zK} {r : Int} {F9 : zF} {B9 : zB} (X : zX D ca L aS vS A p s m args meth c prog_9_method_6_code 4 (Option.none : Option Jvm.ClassFile.FieldType) "StaveHouse$Scribe") : ∀ {n : Nat} {l0 : Int} {l2 : Int} {F : zF} {B : zB} {H : Heap} {locs : List Loc} {ls : Array Slot}, f_Scribe_gatherEvent_58 K n l0 l2 F B = some (r, F9, B9) → zH D ca ad lnC K.2 L F B A H → va_S A s.heap H locs → lv_has ls 4 [(0, .ref (ad 7 l0 0)), (2, .int (iI l2))] → W p l e ({ frames := 2, cells := 0, slots := 0, locals := 37 } : Room) s m args below meth c H locs 0 0 (MQ below (Q_Scribe_gatherEvent K D ca ad L r F9 B9 A) args s 0 0 A) (F0 m 58 ls []) := by
  obtain ⟨hx, hb, hr, hml, hown, hts, hlk, hK, hA, hL, hX⟩ := id X
  intro n
  induction n with
  | zero =>
    intros
    rename_i hf _ _ _
    cases hf
  | succ n ih =>
    intro l0 l2 F B H locs ls hf hZ hS hl
    replace hf : (if 0 ≤ l0 ∧ l0 < K.2 7 then if r32 (F 7 l0 7) then if r32 l2 then (if l2 ≤ (F 7 l0 7) then f_Scribe_gatherEvent_158 K l0 l2 F B else if 0 ≤ (F 7 l0 0) ∧ (F 7 l0 0) < K.2 8 then if 0 ≤ (F 7 l0 7) ∧ (F 7 l0 7) < 400 then zbind (f_Scribe_gridPlace K l0 (B 8 (F 7 l0 0) 224 (F 7 l0 7)) F B) (fun r19 F19 B19 => if r64 r19 then if r64 (F19 7 l0 5) then (if (zcmp r19 (F19 7 l0 5)) = 0 then if 0 ≤ (F19 7 l0 0) ∧ (F19 7 l0 0) < K.2 8 then if 0 ≤ (F19 7 l0 7) ∧ (F19 7 l0 7) < 400 then zbind (f_Scribe_gridPlace K l0 (B19 8 (F19 7 l0 0) 225 (F19 7 l0 7)) F19 B19) (fun r25 F25 B25 => if r64 (F19 7 l0 6) then if r64 r25 then if 0 ≤ (F25 7 l0 0) ∧ (F25 7 l0 0) < K.2 8 then if 0 ≤ (F25 7 l0 7) ∧ (F25 7 l0 7) < 400 then if 0 ≤ (zand (B25 8 (F25 7 l0 0) 222 (F25 7 l0 7)) 127) ∧ (zand (B25 8 (F25 7 l0 0) 222 (F25 7 l0 7)) 127) < 128 then f_Scribe_gatherEvent_58 K n l0 l2 (zup3 (zup3 F25 7 l0 6 (zmax (F19 7 l0 6) r25)) 7 l0 7 ((F25 7 l0 7) + 1)) (zup4 B25 7 l0 8 (zand (B25 8 (F25 7 l0 0) 222 (F25 7 l0 7)) 127) 1) else none else none else none else none else none) else none else none else f_Scribe_gatherEvent_158 K l0 l2 F19 B19) else none else none) else none else none) else none else none else none) = some (r, F9, B9) := hf
    refine lv_aload_n hx hb (D_42 W_prog_9_method_6_code_32 26 rfl rfl) rfl (lv_at hl 0 rfl) ?_
    obtain ⟨g13, hf⟩ := gif hf
    refine zget (ci := 7) (C := RX7) (T := TX7) (v := .int (iI (F 7 l0 7))) (k := 7) hx hb hts inW_7 hown hK hZ g13.1 g13.2 rfl (by decide) k_2_105 rfl (D_180 W_prog_9_method_6_code_32 27 rfl rfl rfl) ?_
    refine lv_iload_n hx hb (D_28 W_prog_9_method_6_code_32 30 rfl rfl) rfl (lv_at hl 1 rfl) ?_
    obtain ⟨g14, hf⟩ := gif hf
    obtain ⟨g15, hf⟩ := gif hf
    refine zge (tgt := 158) hx hb g14 g15 (D_162 W_prog_9_method_6_code_32 31 rfl rfl rfl) (by decide) (fun h16 => ?_) (fun h16 => ?_)
    · replace hf := gpos hf h16
      exact b_Scribe_gatherEvent_158 X hf hZ hS (lv_sub hl [0, 1] rfl)
    · replace hf := gneg hf h16
      refine lv_aload_n hx hb (D_42 W_prog_9_method_6_code_64 2 rfl rfl) rfl (lv_at hl 0 rfl) ?_
      refine lv_aload_n hx hb (D_42 W_prog_9_method_6_code_64 3 rfl rfl) rfl (lv_at hl 0 rfl) ?_
      refine zget (ci := 7) (C := RX7) (T := TX7) (v := va_rf (zrf ad 8 (F 7 l0 0))) (k := 0) hx hb hts inW_7 hown hK hZ g13.1 g13.2 rfl (by decide) k_2_98 rfl (D_180 W_prog_9_method_6_code_64 4 rfl rfl rfl) ?_
      obtain ⟨g17, hf⟩ := gif hf
      refine zunrf g17.1 ?_
      refine zget (ci := 8) (C := RX8) (T := TX8) (v := .ref (ad 8 (F 7 l0 0) (1 + 1))) (k := 1) hx hb hts inW_8 hown hK hZ g17.1 g17.2 rfl (by decide) k_7_221 rfl (D_180 W_prog_9_method_6_code_64 7 rfl rfl rfl) ?_
      refine lv_iconst (v := iI 4) hx hb (D_7 W_prog_9_method_6_code_64 10 rfl rfl) rfl ?_
      refine zaldQ (t := 1) (ci := 8) (k := 1) hx hb hK rfl hZ g17.1 g17.2 rfl (Nat.le_of_ble_eq_true rfl) (by decide) (by decide) (D_50 W_prog_9_method_6_code_64 11 rfl rfl) ?_
      refine W.eq (g2 := F0 m 76 ls [.ref (ad 8 (F 7 l0 0) (224 + 1)), .ref (ad 7 l0 0)]) rfl ?_
      refine lv_aload_n hx hb (D_42 W_prog_9_method_6_code_64 12 rfl rfl) rfl (lv_at hl 0 rfl) ?_
      refine zget (ci := 7) (C := RX7) (T := TX7) (v := .int (iI (F 7 l0 7))) (k := 7) hx hb hts inW_7 hown hK hZ g13.1 g13.2 rfl (by decide) k_2_105 rfl (D_180 W_prog_9_method_6_code_64 13 rfl rfl rfl) ?_
      obtain ⟨g18, hf⟩ := gif hf
      refine zlald (ci := 8) (k := 224) hx hb hK rfl hZ g17.1 g17.2 rfl (Nat.le_of_ble_eq_true rfl) g18.1 g18.2 (D_47 W_prog_9_method_6_code_64 16 rfl rfl) ?_
      obtain ⟨r19, F19, B19, hc19, hf⟩ := gbind hf
      refine va_calll (va_runV (As := [.long (lI (B 8 (F 7 l0 0) 224 (F 7 l0 7)))]) (rest := []) ⟨hx, hb, hml, hown, hts⟩ (c_Scribe_gridPlace (l := l) hc19) (cwV 1 hts (gdV k_8_156 k_8_158 ks_114 k_1_7 k_8_159) rfl rfl rfl (by decide +kernel) ⟨Nat.le_of_ble_eq_true rfl, Nat.le_of_ble_eq_true rfl⟩) (zPV X hZ hS (ci := 7) g13.1 g13.2 (r := (RX7, TX7, 9)) rfl [.long (lI (B 8 (F 7 l0 0) 224 (F 7 l0 7)))]) rfl rfl hl.1 rfl (lv_room (Nat.le_of_ble_eq_true rfl)) (D_182 W_prog_9_method_6_code_64 17 rfl rfl rfl) ⟨Nat.le_of_ble_eq_true rfl, Nat.le_of_ble_eq_true rfl⟩) hS (fun q _ h => zAin X hS q h) (zAin X hS) (fun p19 u19 t19 H19 locs19 ht19 hv19 hw19 hB19 hz19 hk19 hS19 => ?_)
      have hZ19 := zBack X ht19 hB19
      subst hw19
      refine lv_aload_n hx hb (D_42 W_prog_9_method_6_code_64 20 rfl rfl) rfl (lv_at hl 0 rfl) ?_
      refine zget (ci := 7) (C := RX7) (T := TX7) (v := .long (lI (F19 7 l0 5))) (k := 5) hx hb hts inW_7 hown hK hZ19 g13.1 g13.2 rfl (by decide) k_2_103 rfl (D_180 W_prog_9_method_6_code_64 21 rfl rfl rfl) ?_
      obtain ⟨g20, hf⟩ := gif hf
      obtain ⟨g21, hf⟩ := gif hf
      refine zcmp_r hx hb g20 g21 (D_148 W_prog_9_method_6_code_64 24 rfl rfl) ?_
      refine z0ne (tgt := 158) hx hb zcmp_32 (D_154 W_prog_9_method_6_code_64 25 rfl rfl rfl) (by decide) (fun h22 => ?_) (fun h22 => ?_)
      · replace hf := gneg hf h22
        exact b_Scribe_gatherEvent_158 X hf hZ19 hS19 (lv_sub hl [0, 1] rfl)
      · replace hf := gpos hf h22
        refine lv_aload_n hx hb (D_42 W_prog_9_method_6_code_64 28 rfl rfl) rfl (lv_at hl 0 rfl) ?_
        refine lv_aload_n hx hb (D_42 W_prog_9_method_6_code_64 29 rfl rfl) rfl (lv_at hl 0 rfl) ?_
        refine zget (ci := 7) (C := RX7) (T := TX7) (v := .long (lI (F19 7 l0 6))) (k := 6) hx hb hts inW_7 hown hK hZ19 g13.1 g13.2 rfl (by decide) k_2_104 rfl (D_180 W_prog_9_method_6_code_64 30 rfl rfl rfl) ?_
        refine lv_aload_n hx hb (D_42 W_prog_9_method_6_code_96 1 rfl rfl) rfl (lv_at hl 0 rfl) ?_
        refine lv_aload_n hx hb (D_42 W_prog_9_method_6_code_96 2 rfl rfl) rfl (lv_at hl 0 rfl) ?_
        refine zget (ci := 7) (C := RX7) (T := TX7) (v := va_rf (zrf ad 8 (F19 7 l0 0))) (k := 0) hx hb hts inW_7 hown hK hZ19 g13.1 g13.2 rfl (by decide) k_2_98 rfl (D_180 W_prog_9_method_6_code_96 3 rfl rfl rfl) ?_
        obtain ⟨g23, hf⟩ := gif hf
        refine zunrf g23.1 ?_
        refine zget (ci := 8) (C := RX8) (T := TX8) (v := .ref (ad 8 (F19 7 l0 0) (1 + 1))) (k := 1) hx hb hts inW_8 hown hK hZ19 g23.1 g23.2 rfl (by decide) k_7_221 rfl (D_180 W_prog_9_method_6_code_96 6 rfl rfl rfl) ?_
        refine lv_iconst (v := iI 5) hx hb (D_8 W_prog_9_method_6_code_96 9 rfl rfl) rfl ?_
        refine zaldQ (t := 1) (ci := 8) (k := 1) hx hb hK rfl hZ19 g23.1 g23.2 rfl (Nat.le_of_ble_eq_true rfl) (by decide) (by decide) (D_50 W_prog_9_method_6_code_96 10 rfl rfl) ?_
        refine W.eq (g2 := F0 m 107 ls [.ref (ad 8 (F19 7 l0 0) (225 + 1)), .ref (ad 7 l0 0), .long (lI (F19 7 l0 6)), .ref (ad 7 l0 0)]) rfl ?_
        refine lv_aload_n hx hb (D_42 W_prog_9_method_6_code_96 11 rfl rfl) rfl (lv_at hl 0 rfl) ?_
        refine zget (ci := 7) (C := RX7) (T := TX7) (v := .int (iI (F19 7 l0 7))) (k := 7) hx hb hts inW_7 hown hK hZ19 g13.1 g13.2 rfl (by decide) k_2_105 rfl (D_180 W_prog_9_method_6_code_96 12 rfl rfl rfl) ?_
        obtain ⟨g24, hf⟩ := gif hf
        refine zlald (ci := 8) (k := 225) hx hb hK rfl hZ19 g23.1 g23.2 rfl (Nat.le_of_ble_eq_true rfl) g24.1 g24.2 (D_47 W_prog_9_method_6_code_96 15 rfl rfl) ?_
        obtain ⟨r25, F25, B25, hc25, hf⟩ := gbind hf
        refine va_calll (va_runV (As := [.long (lI (B19 8 (F19 7 l0 0) 225 (F19 7 l0 7)))]) (rest := [.long (lI (F19 7 l0 6)), .ref (ad 7 l0 0)]) ⟨hx, hb, hml, hown, hts⟩ (c_Scribe_gridPlace (l := l) hc25) (cwV 1 hts (gdV k_8_156 k_8_158 ks_114 k_1_7 k_8_159) rfl rfl rfl (by decide +kernel) ⟨Nat.le_of_ble_eq_true rfl, Nat.le_of_ble_eq_true rfl⟩) (zPV X hZ19 hS19 (ci := 7) g13.1 g13.2 (r := (RX7, TX7, 9)) rfl [.long (lI (B19 8 (F19 7 l0 0) 225 (F19 7 l0 7)))]) rfl rfl hl.1 rfl (lv_room (Nat.le_of_ble_eq_true rfl)) (D_182 W_prog_9_method_6_code_96 16 rfl rfl rfl) ⟨Nat.le_of_ble_eq_true rfl, Nat.le_of_ble_eq_true rfl⟩) hS19 (fun q _ h => zAin X hS19 q h) (zAin X hS19) (fun p25 u25 t25 H25 locs25 ht25 hv25 hw25 hB25 hz25 hk25 hS25 => ?_)
        have hZ25 := zBack X ht25 hB25
        subst hw25
        obtain ⟨g26, hf⟩ := gif hf
        obtain ⟨g27, hf⟩ := gif hf
        refine va_mmax_long hx hb (by rw [hml]; exact hl.1.symm) hown (hts _ k_8_163) (hts _ k_5_176) (hts _ k_1_3) (hts _ k_5_177) (Nat.le_of_ble_eq_true rfl) (Nat.le_of_ble_eq_true rfl) (Nat.le_of_ble_eq_true rfl) (Nat.le_of_ble_eq_true rfl) (D_184 W_prog_9_method_6_code_96 19 rfl rfl rfl) ?_
        rw [zlmax_e g26 g27]
        refine zput (ci := 7) (C := RX7) (T := TX7) (k := 6) (v := (zmax (F19 7 l0 6) r25)) (w := .long (lI (zmax (F19 7 l0 6) r25))) hx hb hts inW_7 tyX7 tyX7_ok nmX7 hown hK hZ25 hS25 g13.1 g13.2 rfl (by decide) k_2_104 rfl (fun G h => congrArg (fun q => Value.long (lI q)) h) rfl rfl (zno (by decide)) (D_181 W_prog_9_method_6_code_96 22 rfl rfl rfl) (fun H28 locs28 hZ28 hS28 => ?_)
        refine lv_aload_n hx hb (D_42 W_prog_9_method_6_code_96 25 rfl rfl) rfl (lv_at hl 0 rfl) ?_
        refine zget (ci := 7) (C := RX7) (T := TX7) (v := .ref (ad 7 l0 (8 + 1))) (k := 8) hx hb hts inW_7 hown hK hZ28 g13.1 g13.2 rfl (by decide) k_2_106 rfl (D_180 W_prog_9_method_6_code_96 26 rfl rfl rfl) ?_
        refine lv_aload_n hx hb (D_42 W_prog_9_method_6_code_96 29 rfl rfl) rfl (lv_at hl 0 rfl) ?_
        refine zget (ci := 7) (C := RX7) (T := TX7) (v := va_rf (zrf ad 8 (F25 7 l0 0))) (k := 0) hx hb hts inW_7 hown hK hZ28 g13.1 g13.2 rfl (by decide) k_2_98 (congrArg (fun q : Int => va_rf (zrf ad 8 q)) (show (zup3 F25 7 l0 6 (zmax (F19 7 l0 6) r25)) 7 l0 0 = F25 7 l0 0 by simp [zup3])) (D_180 W_prog_9_method_6_code_96 30 rfl rfl rfl) ?_
        obtain ⟨g29, hf⟩ := gif hf
        refine zunrf g29.1 ?_
        refine zget (ci := 8) (C := RX8) (T := TX8) (v := .ref (ad 8 (F25 7 l0 0) (1 + 1))) (k := 1) hx hb hts inW_8 hown hK hZ28 g29.1 g29.2 rfl (by decide) k_7_221 rfl (D_180 W_prog_9_method_6_code_128 1 rfl rfl rfl) ?_
        refine lv_iconst (v := iI 2) hx hb (D_5 W_prog_9_method_6_code_128 4 rfl rfl) rfl ?_
        refine zaldQ (t := 1) (ci := 8) (k := 1) hx hb hK rfl hZ28 g29.1 g29.2 rfl (Nat.le_of_ble_eq_true rfl) (by decide) (by decide) (D_50 W_prog_9_method_6_code_128 5 rfl rfl) ?_
        refine W.eq (g2 := F0 m 134 ls [.ref (ad 8 (F25 7 l0 0) (222 + 1)), .ref (ad 7 l0 (8 + 1))]) rfl ?_
        refine lv_aload_n hx hb (D_42 W_prog_9_method_6_code_128 6 rfl rfl) rfl (lv_at hl 0 rfl) ?_
        refine zget (ci := 7) (C := RX7) (T := TX7) (v := .int (iI (F25 7 l0 7))) (k := 7) hx hb hts inW_7 hown hK hZ28 g13.1 g13.2 rfl (by decide) k_2_105 (congrArg (fun q : Int => Value.int (iI q)) (show (zup3 F25 7 l0 6 (zmax (F19 7 l0 6) r25)) 7 l0 7 = F25 7 l0 7 by simp [zup3])) (D_180 W_prog_9_method_6_code_128 7 rfl rfl rfl) ?_
        obtain ⟨g30, hf⟩ := gif hf
        refine zlald (ci := 8) (k := 222) hx hb hK rfl hZ28 g29.1 g29.2 rfl (Nat.le_of_ble_eq_true rfl) g30.1 g30.2 (D_47 W_prog_9_method_6_code_128 10 rfl rfl) ?_
        refine zl2iw hx hb (D_136 W_prog_9_method_6_code_128 11 rfl rfl) ?_
        refine lv_bipush (v := iI 127) hx hb (D_16 W_prog_9_method_6_code_128 12 rfl rfl rfl) (by decide) ?_
        refine zand_r hx hb (D_126 W_prog_9_method_6_code_128 14 rfl rfl) ?_
        refine lv_iconst (v := iI 1) hx hb (D_4 W_prog_9_method_6_code_128 15 rfl rfl) rfl ?_
        obtain ⟨g31, hf⟩ := gif hf
        refine zzast (ci := 7) (k := 8) hx hb hK rfl hZ28 hS28 g13.1 g13.2 rfl (Nat.le_of_ble_eq_true rfl) (by decide) g31.1 g31.2 (D_84 W_prog_9_method_6_code_128 16 rfl rfl) (fun H33 locs33 hZ33 hS33 => ?_)
        refine lv_aload_n hx hb (D_42 W_prog_9_method_6_code_128 17 rfl rfl) rfl (lv_at hl 0 rfl) ?_
        refine lv_dup hx hb (D_89 W_prog_9_method_6_code_128 18 rfl rfl) rfl ?_
        refine zget (ci := 7) (C := RX7) (T := TX7) (v := .int (iI (F25 7 l0 7))) (k := 7) hx hb hts inW_7 hown hK hZ33 g13.1 g13.2 rfl (by decide) k_2_105 (congrArg (fun q : Int => Value.int (iI q)) (show (zup3 F25 7 l0 6 (zmax (F19 7 l0 6) r25)) 7 l0 7 = F25 7 l0 7 by simp [zup3])) (D_180 W_prog_9_method_6_code_128 19 rfl rfl rfl) ?_
        refine lv_iconst (v := iI 1) hx hb (D_4 W_prog_9_method_6_code_128 22 rfl rfl) rfl ?_
        refine zadd hx hb (D_96 W_prog_9_method_6_code_128 23 rfl rfl) ?_
        refine zput (ci := 7) (C := RX7) (T := TX7) (k := 7) (v := ((F25 7 l0 7) + 1)) (w := .int (iI ((F25 7 l0 7) + 1))) hx hb hts inW_7 tyX7 tyX7_ok nmX7 hown hK hZ33 hS33 g13.1 g13.2 rfl (by decide) k_2_105 rfl (fun G h => congrArg (fun q => Value.int (iI q)) h) rfl rfl (zno (by decide)) (D_181 W_prog_9_method_6_code_128 24 rfl rfl rfl) (fun H34 locs34 hZ34 hS34 => ?_)
        refine lv_goto (tgt := 58) hx hb (D_167 W_prog_9_method_6_code_128 27 rfl rfl rfl) (by decide) ?_
        exact ih hf hZ34 hS34 (lv_sub hl [0, 1] rfl)

def f_Scribe_gatherEvent_36 (K : zK) : Nat → Int → Int → Int → zF → zB → zO
  | 0, _, _, _, _, _ => none
  | n + 1, l3, l0, l2, F, B => if 0 ≤ l0 ∧ l0 < K.2 7 then if r32 l3 then (if 128 ≤ l3 then f_Scribe_gatherEvent_58 K K.1 l0 l2 F B else if 0 ≤ l3 ∧ l3 < 128 then f_Scribe_gatherEvent_36 K n (l3 + 1) l0 l2 F (zup4 B 7 l0 8 l3 0) else none) else none else none
set_option maxHeartbeats 4000000 in
set_option maxRecDepth 100000 in
theorem b_Scribe_gatherEvent_36 {D : va_G} {ca : Nat → ClassId} {ad : Nat → Int → Nat → Nat} {L : List Nat} {aS vS : Nat → Nat} {A : Nat → Prop} {p : Program} {l : Launch} {e : Env} {s : State} {m : MethodId} {args : Array Value} {below : List Frame} {meth : Method} {c : Code} {K : zK} {r : Int} {F9 : zF} {B9 : zB} (X : zX D ca L aS vS A p s m args meth c prog_9_method_6_code 4 (Option.none : Option Jvm.ClassFile.FieldType) "StaveHouse$Scribe") : ∀ {n : Nat} {l3 : Int} {l0 : Int} {l2 : Int} {F : zF} {B : zB} {H : Heap} {locs : List Loc} {ls : Array Slot}, f_Scribe_gatherEvent_36 K n l3 l0 l2 F B = some (r, F9, B9) → zH D ca ad lnC K.2 L F B A H → va_S A s.heap H locs → lv_has ls 4 [(3, .int (iI l3)), (0, .ref (ad 7 l0 0)), (2, .int (iI l2))] → W p l e ({ frames := 2, cells := 0, slots := 0, locals := 37 } : Room) s m args below meth c H locs 0 0 (MQ below (Q_Scribe_gatherEvent K D ca ad L r F9 B9 A) args s 0 0 A) (F0 m 36 ls []) := by
  obtain ⟨hx, hb, hr, hml, hown, hts, hlk, hK, hA, hL, hX⟩ := id X
  intro n
  induction n with
  | zero =>
    intros
    rename_i hf _ _ _
    cases hf
  | succ n ih =>
    intro l3 l0 l2 F B H locs ls hf hZ hS hl
    replace hf : (if 0 ≤ l0 ∧ l0 < K.2 7 then if r32 l3 then (if 128 ≤ l3 then f_Scribe_gatherEvent_58 K K.1 l0 l2 F B else if 0 ≤ l3 ∧ l3 < 128 then f_Scribe_gatherEvent_36 K n (l3 + 1) l0 l2 F (zup4 B 7 l0 8 l3 0) else none) else none else none) = some (r, F9, B9) := hf
    refine lv_iload_n hx hb (D_29 W_prog_9_method_6_code_32 4 rfl rfl) rfl (lv_at hl 0 rfl) ?_
    refine lv_aload_n hx hb (D_42 W_prog_9_method_6_code_32 5 rfl rfl) rfl (lv_at hl 1 rfl) ?_
    obtain ⟨g8, hf⟩ := gif hf
    refine zget (ci := 7) (C := RX7) (T := TX7) (v := .ref (ad 7 l0 (8 + 1))) (k := 8) hx hb hts inW_7 hown hK hZ g8.1 g8.2 rfl (by decide) k_2_106 rfl (D_180 W_prog_9_method_6_code_32 6 rfl rfl rfl) ?_
    refine zlen (t := 3) (x := 3) (ci := 7) (k := 8) hx hb hK rfl (fun _ _ => ⟨_, rfl⟩) hZ g8.1 g8.2 rfl (D_190 W_prog_9_method_6_code_32 9 rfl rfl) ?_
    refine W.eq (g2 := F0 m 42 ls [.int (iI 128), .int (iI l3)]) rfl ?_
    obtain ⟨g9, hf⟩ := gif hf
    refine zge (tgt := 58) hx hb g9 (by decide) (D_162 W_prog_9_method_6_code_32 10 rfl rfl rfl) (by decide) (fun h10 => ?_) (fun h10 => ?_)
    · replace hf := gpos hf h10
      exact b_Scribe_gatherEvent_58 X hf hZ hS (lv_sub hl [1, 2] rfl)
    · replace hf := gneg hf h10
      refine lv_aload_n hx hb (D_42 W_prog_9_method_6_code_32 13 rfl rfl) rfl (lv_at hl 1 rfl) ?_
      refine zget (ci := 7) (C := RX7) (T := TX7) (v := .ref (ad 7 l0 (8 + 1))) (k := 8) hx hb hts inW_7 hown hK hZ g8.1 g8.2 rfl (by decide) k_2_106 rfl (D_180 W_prog_9_method_6_code_32 14 rfl rfl rfl) ?_
      refine lv_iload_n hx hb (D_29 W_prog_9_method_6_code_32 17 rfl rfl) rfl (lv_at hl 0 rfl) ?_
      refine lv_iconst (v := iI 0) hx hb (D_3 W_prog_9_method_6_code_32 18 rfl rfl) rfl ?_
      obtain ⟨g11, hf⟩ := gif hf
      refine zzast (ci := 7) (k := 8) hx hb hK rfl hZ hS g8.1 g8.2 rfl (Nat.le_of_ble_eq_true rfl) (by decide) g11.1 g11.2 (D_84 W_prog_9_method_6_code_32 19 rfl rfl) (fun H12 locs12 hZ12 hS12 => ?_)
      refine lv_iinc (v := iI (l3 + 1)) (lv' := [(3, .int (iI (l3 + 1))), (0, .ref (ad 7 l0 0)), (2, .int (iI l2))]) hx hb d_9_6_52 hl (k := 0) rfl (iI_add _ 1) (by decide) rfl (fun ls hl => ?_)
      refine lv_goto (tgt := 36) hx hb (D_167 W_prog_9_method_6_code_32 23 rfl rfl rfl) (by decide) ?_
      exact ih hf hZ12 hS12 (lv_sub hl [0, 1, 2] rfl)

def f_Scribe_gatherEvent (K : zK) (l0 : Int) (l1 : Int) (l2 : Int) (F : zF) (B : zB) : zO := if 0 ≤ l0 ∧ l0 < K.2 7 then if 0 ≤ (F 7 l0 0) ∧ (F 7 l0 0) < K.2 8 then if 0 ≤ l1 ∧ l1 < 400 then zbind (f_Scribe_gridPlace K l0 (B 8 (F 7 l0 0) 224 l1) F B) (fun r4 F4 B4 => f_Scribe_gatherEvent_36 K K.1 0 l0 l2 (zup3 (zup3 (zup3 F4 7 l0 5 r4) 7 l0 6 (r4 + 1)) 7 l0 7 l1) B4) else none else none else none
set_option maxHeartbeats 4000000 in
set_option maxRecDepth 100000 in
theorem c_Scribe_gatherEvent {l : Launch} {D : va_G} {ca : Nat → ClassId} {ad : Nat → Int → Nat → Nat} {L : List Nat} {aS vS : Nat → Nat} {sz : Nat} {K : zK}  {l0 : Int} {l1 : Int} {l2 : Int} {F F9 : zF} {B B9 : zB} {r : Int} (hf : f_Scribe_gatherEvent K l0 l1 l2 F B = some (r, F9, B9)) : Met l ({ cls := "StaveHouse$Scribe", name := "gatherEvent", desc := "(II)V" } : Jvm.MethodName) (Cond.code ({ cls := "StaveHouse$Scribe", name := "gatherEvent", desc := "(II)V" } : Jvm.MethodName) prog_9_method_6_code 4 (Option.none : Option Jvm.ClassFile.FieldType) :: wAll) ({ frames := 2, cells := 0, slots := 0, locals := 37 } : Room) (va_Pc [.ref (ad 7 l0 0), .int (iI l1), .int (iI l2)] (zPre D ca ad lnC K.2 L aS vS F B sz)) (Q_Scribe_gatherEvent K D ca ad L r F9 B9 (zA L sz)) 0 0 (zA L sz) := by
  refine zMet (Qc := Q_Scribe_gatherEvent K D ca ad L r F9 B9) (lv := [(0, .ref (ad 7 l0 0)), (1, .int (iI l1)), (2, .int (iI l2))]) (by decide) (Nat.le_of_ble_eq_true rfl) rfl (fun A p e s m below meth c ls X hZ hS hl => ?_)
  obtain ⟨hx, hb, hr, hml, hown, hts, hlk, hK, hA, hL, hX⟩ := id X
  replace hf : (if 0 ≤ l0 ∧ l0 < K.2 7 then if 0 ≤ (F 7 l0 0) ∧ (F 7 l0 0) < K.2 8 then if 0 ≤ l1 ∧ l1 < 400 then zbind (f_Scribe_gridPlace K l0 (B 8 (F 7 l0 0) 224 l1) F B) (fun r4 F4 B4 => f_Scribe_gatherEvent_36 K K.1 0 l0 l2 (zup3 (zup3 (zup3 F4 7 l0 5 r4) 7 l0 6 (r4 + 1)) 7 l0 7 l1) B4) else none else none else none) = some (r, F9, B9) := hf
  refine lv_aload_n hx hb (D_42 W_prog_9_method_6_code_0 0 rfl rfl) rfl (lv_at hl 0 rfl) ?_
  refine lv_aload_n hx hb (D_42 W_prog_9_method_6_code_0 1 rfl rfl) rfl (lv_at hl 0 rfl) ?_
  refine lv_aload_n hx hb (D_42 W_prog_9_method_6_code_0 2 rfl rfl) rfl (lv_at hl 0 rfl) ?_
  obtain ⟨g1, hf⟩ := gif hf
  refine zget (ci := 7) (C := RX7) (T := TX7) (v := va_rf (zrf ad 8 (F 7 l0 0))) (k := 0) hx hb hts inW_7 hown hK hZ g1.1 g1.2 rfl (by decide) k_2_98 rfl (D_180 W_prog_9_method_6_code_0 3 rfl rfl rfl) ?_
  obtain ⟨g2, hf⟩ := gif hf
  refine zunrf g2.1 ?_
  refine zget (ci := 8) (C := RX8) (T := TX8) (v := .ref (ad 8 (F 7 l0 0) (1 + 1))) (k := 1) hx hb hts inW_8 hown hK hZ g2.1 g2.2 rfl (by decide) k_7_221 rfl (D_180 W_prog_9_method_6_code_0 6 rfl rfl rfl) ?_
  refine lv_iconst (v := iI 4) hx hb (D_7 W_prog_9_method_6_code_0 9 rfl rfl) rfl ?_
  refine zaldQ (t := 1) (ci := 8) (k := 1) hx hb hK rfl hZ g2.1 g2.2 rfl (Nat.le_of_ble_eq_true rfl) (by decide) (by decide) (D_50 W_prog_9_method_6_code_0 10 rfl rfl) ?_
  refine W.eq (g2 := F0 m 11 ls [.ref (ad 8 (F 7 l0 0) (224 + 1)), .ref (ad 7 l0 0), .ref (ad 7 l0 0)]) rfl ?_
  refine lv_iload_n hx hb (D_27 W_prog_9_method_6_code_0 11 rfl rfl) rfl (lv_at hl 1 rfl) ?_
  obtain ⟨g3, hf⟩ := gif hf
  refine zlald (ci := 8) (k := 224) hx hb hK rfl hZ g2.1 g2.2 rfl (Nat.le_of_ble_eq_true rfl) g3.1 g3.2 (D_47 W_prog_9_method_6_code_0 12 rfl rfl) ?_
  obtain ⟨r4, F4, B4, hc4, hf⟩ := gbind hf
  refine va_calll (va_runV (As := [.long (lI (B 8 (F 7 l0 0) 224 l1))]) (rest := [.ref (ad 7 l0 0)]) ⟨hx, hb, hml, hown, hts⟩ (c_Scribe_gridPlace (l := l) hc4) (cwV 1 hts (gdV k_8_156 k_8_158 ks_114 k_1_7 k_8_159) rfl rfl rfl (by decide +kernel) ⟨Nat.le_of_ble_eq_true rfl, Nat.le_of_ble_eq_true rfl⟩) (zPV X hZ hS (ci := 7) g1.1 g1.2 (r := (RX7, TX7, 9)) rfl [.long (lI (B 8 (F 7 l0 0) 224 l1))]) rfl rfl hl.1 rfl (lv_room (Nat.le_of_ble_eq_true rfl)) (D_182 W_prog_9_method_6_code_0 13 rfl rfl rfl) ⟨Nat.le_of_ble_eq_true rfl, Nat.le_of_ble_eq_true rfl⟩) hS (fun q _ h => zAin X hS q h) (zAin X hS) (fun p4 u4 t4 H4 locs4 ht4 hv4 hw4 hB4 hz4 hk4 hS4 => ?_)
  have hZ4 := zBack X ht4 hB4
  subst hw4
  refine zput (ci := 7) (C := RX7) (T := TX7) (k := 5) (v := r4) (w := .long (lI r4)) hx hb hts inW_7 tyX7 tyX7_ok nmX7 hown hK hZ4 hS4 g1.1 g1.2 rfl (by decide) k_2_103 rfl (fun G h => congrArg (fun q => Value.long (lI q)) h) rfl rfl (zno (by decide)) (D_181 W_prog_9_method_6_code_0 16 rfl rfl rfl) (fun H5 locs5 hZ5 hS5 => ?_)
  refine lv_aload_n hx hb (D_42 W_prog_9_method_6_code_0 19 rfl rfl) rfl (lv_at hl 0 rfl) ?_
  refine lv_aload_n hx hb (D_42 W_prog_9_method_6_code_0 20 rfl rfl) rfl (lv_at hl 0 rfl) ?_
  refine zget (ci := 7) (C := RX7) (T := TX7) (v := .long (lI r4)) (k := 5) hx hb hts inW_7 hown hK hZ5 g1.1 g1.2 rfl (by decide) k_2_103 (congrArg (fun q : Int => Value.long (lI q)) (show (zup3 F4 7 l0 5 r4) 7 l0 5 = r4 by simp [zup3])) (D_180 W_prog_9_method_6_code_0 21 rfl rfl rfl) ?_
  refine lv_lconst (v := lI 1) hx hb (D_10 W_prog_9_method_6_code_0 24 rfl rfl) (by decide) ?_
  refine zladd hx hb (D_97 W_prog_9_method_6_code_0 25 rfl rfl) ?_
  refine zput (ci := 7) (C := RX7) (T := TX7) (k := 6) (v := (r4 + 1)) (w := .long (lI (r4 + 1))) hx hb hts inW_7 tyX7 tyX7_ok nmX7 hown hK hZ5 hS5 g1.1 g1.2 rfl (by decide) k_2_104 rfl (fun G h => congrArg (fun q => Value.long (lI q)) h) rfl rfl (zno (by decide)) (D_181 W_prog_9_method_6_code_0 26 rfl rfl rfl) (fun H6 locs6 hZ6 hS6 => ?_)
  refine lv_aload_n hx hb (D_42 W_prog_9_method_6_code_0 29 rfl rfl) rfl (lv_at hl 0 rfl) ?_
  refine lv_iload_n hx hb (D_27 W_prog_9_method_6_code_0 30 rfl rfl) rfl (lv_at hl 1 rfl) ?_
  refine zput (ci := 7) (C := RX7) (T := TX7) (k := 7) (v := l1) (w := .int (iI l1)) hx hb hts inW_7 tyX7 tyX7_ok nmX7 hown hK hZ6 hS6 g1.1 g1.2 rfl (by decide) k_2_105 rfl (fun G h => congrArg (fun q => Value.int (iI q)) h) rfl rfl (zno (by decide)) (D_181 W_prog_9_method_6_code_0 31 rfl rfl rfl) (fun H7 locs7 hZ7 hS7 => ?_)
  refine lv_iconst (v := iI 0) hx hb (D_3 W_prog_9_method_6_code_32 2 rfl rfl) rfl ?_
  refine lv_istore_n (lv' := [(3, .int (iI 0)), (0, .ref (ad 7 l0 0)), (1, .int (iI l1)), (2, .int (iI l2))]) hx hb (D_62 W_prog_9_method_6_code_32 3 rfl rfl) rfl hl (by decide) rfl (fun ls hl => ?_)
  exact b_Scribe_gatherEvent_36 X hf hZ7 hS7 (lv_sub hl [0, 1, 3] rfl)

abbrev Q_Scribe_spellEvent (K : zK) (D : va_G) (ca : Nat → ClassId) (ad : Nat → Int → Nat → Nat) (L : List Nat) (r : Int) (F : zF) (B : zB) (A : Nat → Prop) : Array Value → State → Outcome → State → Prop := va_Qv (S := Unit) (fun _ => True) (fun _ => zPo D ca ad lnC K.2 L F B A) A
def f_Scribe_spellEvent_50 (K : zK)  (F : zF) (B : zB) : zO := some (0, F, B)
set_option maxHeartbeats 4000000 in
set_option maxRecDepth 100000 in
theorem b_Scribe_spellEvent_50 {D : va_G} {ca : Nat → ClassId} {ad : Nat → Int → Nat → Nat} {L : List Nat} {aS vS : Nat → Nat} {A : Nat → Prop} {p : Program} {l : Launch} {e : Env} {s : State} {m : MethodId} {args : Array Value} {below : List Frame} {meth : Method} {c : Code} {K : zK} {r : Int} {F9 : zF} {B9 : zB} (X : zX D ca L aS vS A p s m args meth c prog_9_method_7_code 3 (Option.none : Option Jvm.ClassFile.FieldType) "StaveHouse$Scribe")  {F : zF} {B : zB} {H : Heap} {locs : List Loc} {ls : Array Slot} (hf : f_Scribe_spellEvent_50 K  F B = some (r, F9, B9)) (hZ : zH D ca ad lnC K.2 L F B A H) (hS : va_S A s.heap H locs) (hl : lv_has ls 3 []) : W p l e ({ frames := 2, cells := 0, slots := 0, locals := 50 } : Room) s m args below meth c H locs 0 0 (MQ below (Q_Scribe_spellEvent K D ca ad L r F9 B9 A) args s 0 0 A) (F0 m 50 ls []) := by
  obtain ⟨hx, hb, hr, hml, hown, hts, hlk, hK, hA, hL, hX⟩ := id X
  replace hf : (some (0, F, B)) = some (r, F9, B9) := hf
  cases hf
  exact W.vret hx hb hr (fun t ht hW => ⟨⟨(), rfl, trivial, by rw [ht]; exact hZ, va_K.moved hW.alike hK⟩, hS.F ht⟩) hS.2.2 (D_177 W_prog_9_method_7_code_32 18 rfl rfl) hlk

def f_Scribe_spellEvent_44 (rec12 : Int → Int → Int → zF → zB → zO) (K : zK) (l2 : Int) (l1 : Int) (l0 : Int) (F : zF) (B : zB) : zO := rec12 (l2 + 1) l1 l0 F B
set_option maxHeartbeats 4000000 in
set_option maxRecDepth 100000 in
theorem b_Scribe_spellEvent_44 {D : va_G} {ca : Nat → ClassId} {ad : Nat → Int → Nat → Nat} {L : List Nat} {aS vS : Nat → Nat} {A : Nat → Prop} {p : Program} {l : Launch} {e : Env} {s : State} {m : MethodId} {args : Array Value} {below : List Frame} {meth : Method} {c : Code} {K : zK} {r : Int} {F9 : zF} {B9 : zB} (X : zX D ca L aS vS A p s m args meth c prog_9_method_7_code 3 (Option.none : Option Jvm.ClassFile.FieldType) "StaveHouse$Scribe") {rec12 : Int → Int → Int → zF → zB → zO} (hrec12 : ∀ {l2 : Int} {l1 : Int} {l0 : Int} {F : zF} {B : zB} {H : Heap} {locs : List Loc} {ls : Array Slot}, rec12 l2 l1 l0 F B = some (r, F9, B9) → zH D ca ad lnC K.2 L F B A H → va_S A s.heap H locs → lv_has ls 3 [(2, .int (iI l2)), (1, .int (iI l1)), (0, .ref (ad 7 l0 0))] → W p l e ({ frames := 2, cells := 0, slots := 0, locals := 50 } : Room) s m args below meth c H locs 0 0 (MQ below (Q_Scribe_spellEvent K D ca ad L r F9 B9 A) args s 0 0 A) (F0 m 12 ls [])) {l2 : Int} {l1 : Int} {l0 : Int} {F : zF} {B : zB} {H : Heap} {locs : List Loc} {ls : Array Slot} (hf : f_Scribe_spellEvent_44 rec12 K l2 l1 l0 F B = some (r, F9, B9)) (hZ : zH D ca ad lnC K.2 L F B A H) (hS : va_S A s.heap H locs) (hl : lv_has ls 3 [(2, .int (iI l2)), (1, .int (iI l1)), (0, .ref (ad 7 l0 0))]) : W p l e ({ frames := 2, cells := 0, slots := 0, locals := 50 } : Room) s m args below meth c H locs 0 0 (MQ below (Q_Scribe_spellEvent K D ca ad L r F9 B9 A) args s 0 0 A) (F0 m 44 ls []) := by
  obtain ⟨hx, hb, hr, hml, hown, hts, hlk, hK, hA, hL, hX⟩ := id X
  replace hf : (rec12 (l2 + 1) l1 l0 F B) = some (r, F9, B9) := hf
  refine lv_iinc (v := iI (l2 + 1)) (lv' := [(2, .int (iI (l2 + 1))), (1, .int (iI l1)), (0, .ref (ad 7 l0 0))]) hx hb d_9_7_44 hl (k := 0) rfl (iI_add _ 1) (by decide) rfl (fun ls hl => ?_)
  refine lv_goto (tgt := 12) hx hb (D_167 W_prog_9_method_7_code_32 15 rfl rfl rfl) (by decide) ?_
  exact hrec12 hf hZ hS (lv_sub hl [0, 1, 2] rfl)

def f_Scribe_spellEvent_12 (K : zK) : Nat → Int → Int → Int → zF → zB → zO
  | 0, _, _, _, _, _ => none
  | n + 1, l2, l1, l0, F, B => if 0 ≤ l0 ∧ l0 < K.2 7 then if r32 l2 then (if 128 ≤ l2 then f_Scribe_spellEvent_50 K F B else if r32 l1 then (if 6 ≤ l1 then f_Scribe_spellEvent_50 K F B else if 0 ≤ l2 ∧ l2 < 128 then if r32 (B 7 l0 8 l2) then (if (B 7 l0 8 l2) = 0 then f_Scribe_spellEvent_44 (f_Scribe_spellEvent_12 K n) K l2 l1 l0 F B else zbind (f_Scribe_spell K l0 l2 F B) (fun r12 F12 B12 => f_Scribe_spellEvent_44 (f_Scribe_spellEvent_12 K n) K l2 (l1 + 1) l0 F12 B12)) else none else none) else none) else none else none
set_option maxHeartbeats 4000000 in
set_option maxRecDepth 100000 in
theorem b_Scribe_spellEvent_12 {D : va_G} {ca : Nat → ClassId} {ad : Nat → Int → Nat → Nat} {L : List Nat} {aS vS : Nat → Nat} {A : Nat → Prop} {p : Program} {l : Launch} {e : Env} {s : State} {m : MethodId} {args : Array Value} {below : List Frame} {meth : Method} {c : Code} {K : zK} {r : Int} {F9 : zF} {B9 : zB} (X : zX D ca L aS vS A p s m args meth c prog_9_method_7_code 3 (Option.none : Option Jvm.ClassFile.FieldType) "StaveHouse$Scribe") : ∀ {n : Nat} {l2 : Int} {l1 : Int} {l0 : Int} {F : zF} {B : zB} {H : Heap} {locs : List Loc} {ls : Array Slot}, f_Scribe_spellEvent_12 K n l2 l1 l0 F B = some (r, F9, B9) → zH D ca ad lnC K.2 L F B A H → va_S A s.heap H locs → lv_has ls 3 [(2, .int (iI l2)), (1, .int (iI l1)), (0, .ref (ad 7 l0 0))] → W p l e ({ frames := 2, cells := 0, slots := 0, locals := 50 } : Room) s m args below meth c H locs 0 0 (MQ below (Q_Scribe_spellEvent K D ca ad L r F9 B9 A) args s 0 0 A) (F0 m 12 ls []) := by
  obtain ⟨hx, hb, hr, hml, hown, hts, hlk, hK, hA, hL, hX⟩ := id X
  intro n
  induction n with
  | zero =>
    intros
    rename_i hf _ _ _
    cases hf
  | succ n ih =>
    intro l2 l1 l0 F B H locs ls hf hZ hS hl
    replace hf : (if 0 ≤ l0 ∧ l0 < K.2 7 then if r32 l2 then (if 128 ≤ l2 then f_Scribe_spellEvent_50 K F B else if r32 l1 then (if 6 ≤ l1 then f_Scribe_spellEvent_50 K F B else if 0 ≤ l2 ∧ l2 < 128 then if r32 (B 7 l0 8 l2) then (if (B 7 l0 8 l2) = 0 then f_Scribe_spellEvent_44 (f_Scribe_spellEvent_12 K n) K l2 l1 l0 F B else zbind (f_Scribe_spell K l0 l2 F B) (fun r12 F12 B12 => f_Scribe_spellEvent_44 (f_Scribe_spellEvent_12 K n) K l2 (l1 + 1) l0 F12 B12)) else none else none) else none) else none else none) = some (r, F9, B9) := hf
    refine lv_iload_n hx hb (D_28 W_prog_9_method_7_code_0 12 rfl rfl) rfl (lv_at hl 0 rfl) ?_
    refine lv_aload_n hx hb (D_42 W_prog_9_method_7_code_0 13 rfl rfl) rfl (lv_at hl 2 rfl) ?_
    obtain ⟨g4, hf⟩ := gif hf
    refine zget (ci := 7) (C := RX7) (T := TX7) (v := .ref (ad 7 l0 (8 + 1))) (k := 8) hx hb hts inW_7 hown hK hZ g4.1 g4.2 rfl (by decide) k_2_106 rfl (D_180 W_prog_9_method_7_code_0 14 rfl rfl rfl) ?_
    refine zlen (t := 3) (x := 3) (ci := 7) (k := 8) hx hb hK rfl (fun _ _ => ⟨_, rfl⟩) hZ g4.1 g4.2 rfl (D_190 W_prog_9_method_7_code_0 17 rfl rfl) ?_
    refine W.eq (g2 := F0 m 18 ls [.int (iI 128), .int (iI l2)]) rfl ?_
    obtain ⟨g5, hf⟩ := gif hf
    refine zge (tgt := 50) hx hb g5 (by decide) (D_162 W_prog_9_method_7_code_0 18 rfl rfl rfl) (by decide) (fun h6 => ?_) (fun h6 => ?_)
    · replace hf := gpos hf h6
      exact b_Scribe_spellEvent_50 X hf hZ hS (lv_sub hl [] rfl)
    · replace hf := gneg hf h6
      refine lv_iload_n hx hb (D_27 W_prog_9_method_7_code_0 21 rfl rfl) rfl (lv_at hl 1 rfl) ?_
      refine lv_bipush (v := iI 6) hx hb (D_16 W_prog_9_method_7_code_0 22 rfl rfl rfl) (by decide) ?_
      obtain ⟨g7, hf⟩ := gif hf
      refine zge (tgt := 50) hx hb g7 (by decide) (D_162 W_prog_9_method_7_code_0 24 rfl rfl rfl) (by decide) (fun h8 => ?_) (fun h8 => ?_)
      · replace hf := gpos hf h8
        exact b_Scribe_spellEvent_50 X hf hZ hS (lv_sub hl [] rfl)
      · replace hf := gneg hf h8
        refine lv_aload_n hx hb (D_42 W_prog_9_method_7_code_0 27 rfl rfl) rfl (lv_at hl 2 rfl) ?_
        refine zget (ci := 7) (C := RX7) (T := TX7) (v := .ref (ad 7 l0 (8 + 1))) (k := 8) hx hb hts inW_7 hown hK hZ g4.1 g4.2 rfl (by decide) k_2_106 rfl (D_180 W_prog_9_method_7_code_0 28 rfl rfl rfl) ?_
        refine lv_iload_n hx hb (D_28 W_prog_9_method_7_code_0 31 rfl rfl) rfl (lv_at hl 0 rfl) ?_
        obtain ⟨g9, hf⟩ := gif hf
        refine zzald (ci := 7) (k := 8) hx hb hK rfl hZ g4.1 g4.2 rfl (Nat.le_of_ble_eq_true rfl) g9.1 g9.2 (D_51 W_prog_9_method_7_code_32 0 rfl rfl) ?_
        obtain ⟨g10, hf⟩ := gif hf
        refine z0eq (tgt := 44) hx hb g10 (D_153 W_prog_9_method_7_code_32 1 rfl rfl rfl) (by decide) (fun h11 => ?_) (fun h11 => ?_)
        · replace hf := gpos hf h11
          exact b_Scribe_spellEvent_44 X ih hf hZ hS (lv_sub hl [0, 1, 2] rfl)
        · replace hf := gneg hf h11
          refine lv_iinc (v := iI (l1 + 1)) (lv' := [(1, .int (iI (l1 + 1))), (2, .int (iI l2)), (0, .ref (ad 7 l0 0))]) hx hb d_9_7_36 hl (k := 1) rfl (iI_add _ 1) (by decide) rfl (fun ls hl => ?_)
          refine lv_aload_n hx hb (D_42 W_prog_9_method_7_code_32 7 rfl rfl) rfl (lv_at hl 2 rfl) ?_
          refine lv_iload_n hx hb (D_28 W_prog_9_method_7_code_32 8 rfl rfl) rfl (lv_at hl 1 rfl) ?_
          obtain ⟨r12, F12, B12, hc12, hf⟩ := gbind hf
          refine va_callv (va_runV (As := [.int (iI l2)]) (rest := []) ⟨hx, hb, hml, hown, hts⟩ (c_Scribe_spell (l := l) hc12) (cwV 1 hts (gdV k_8_226 k_8_228 ks_122 k_1_7 k_8_229) rfl rfl rfl (by decide +kernel) ⟨Nat.le_of_ble_eq_true rfl, Nat.le_of_ble_eq_true rfl⟩) (zPV X hZ hS (ci := 7) g4.1 g4.2 (r := (RX7, TX7, 9)) rfl [.int (iI l2)]) rfl rfl hl.1 rfl (lv_room (Nat.le_of_ble_eq_true rfl)) (D_182 W_prog_9_method_7_code_32 9 rfl rfl rfl) ⟨Nat.le_of_ble_eq_true rfl, Nat.le_of_ble_eq_true rfl⟩) hS (fun q _ h => zAin X hS q h) (zAin X hS) (fun u12 t12 H12 locs12 ht12 hv12 hw12 hB12 hz12 hk12 hS12 => ?_)
          have hZ12 := zBack X ht12 hB12
          exact b_Scribe_spellEvent_44 X ih hf hZ12 hS12 (lv_sub hl [1, 0, 2] rfl)

def f_Scribe_spellEvent (K : zK) (l0 : Int) (F : zF) (B : zB) : zO := if 0 ≤ l0 ∧ l0 < K.2 7 then if 0 ≤ (F 7 l0 4) ∧ (F 7 l0 4) < K.2 1 then f_Scribe_spellEvent_12 K K.1 0 0 l0 (zup3 F 1 (F 7 l0 4) 10 0) B else none else none
set_option maxHeartbeats 4000000 in
set_option maxRecDepth 100000 in
theorem c_Scribe_spellEvent {l : Launch} {D : va_G} {ca : Nat → ClassId} {ad : Nat → Int → Nat → Nat} {L : List Nat} {aS vS : Nat → Nat} {sz : Nat} {K : zK}  {l0 : Int} {F F9 : zF} {B B9 : zB} {r : Int} (hf : f_Scribe_spellEvent K l0 F B = some (r, F9, B9)) : Met l ({ cls := "StaveHouse$Scribe", name := "spellEvent", desc := "()V" } : Jvm.MethodName) (Cond.code ({ cls := "StaveHouse$Scribe", name := "spellEvent", desc := "()V" } : Jvm.MethodName) prog_9_method_7_code 3 (Option.none : Option Jvm.ClassFile.FieldType) :: wAll) ({ frames := 2, cells := 0, slots := 0, locals := 50 } : Room) (va_Pc [.ref (ad 7 l0 0)] (zPre D ca ad lnC K.2 L aS vS F B sz)) (Q_Scribe_spellEvent K D ca ad L r F9 B9 (zA L sz)) 0 0 (zA L sz) := by
  refine zMet (Qc := Q_Scribe_spellEvent K D ca ad L r F9 B9) (lv := [(0, .ref (ad 7 l0 0))]) (by decide) (Nat.le_of_ble_eq_true rfl) rfl (fun A p e s m below meth c ls X hZ hS hl => ?_)
  obtain ⟨hx, hb, hr, hml, hown, hts, hlk, hK, hA, hL, hX⟩ := id X
  replace hf : (if 0 ≤ l0 ∧ l0 < K.2 7 then if 0 ≤ (F 7 l0 4) ∧ (F 7 l0 4) < K.2 1 then f_Scribe_spellEvent_12 K K.1 0 0 l0 (zup3 F 1 (F 7 l0 4) 10 0) B else none else none) = some (r, F9, B9) := hf
  refine lv_aload_n hx hb (D_42 W_prog_9_method_7_code_0 0 rfl rfl) rfl (lv_at hl 0 rfl) ?_
  obtain ⟨g1, hf⟩ := gif hf
  refine zget (ci := 7) (C := RX7) (T := TX7) (v := va_rf (zrf ad 1 (F 7 l0 4))) (k := 4) hx hb hts inW_7 hown hK hZ g1.1 g1.2 rfl (by decide) k_2_102 rfl (D_180 W_prog_9_method_7_code_0 1 rfl rfl rfl) ?_
  refine lv_iconst (v := iI 0) hx hb (D_3 W_prog_9_method_7_code_0 4 rfl rfl) rfl ?_
  obtain ⟨g2, hf⟩ := gif hf
  refine W.eq (g2 := F0 m 5 ls [.int (iI 0), .ref (ad 1 (F 7 l0 4) 0)]) (by rw [zrf_pos (ad := ad) (t := 1) g2.1]; try rfl) ?_
  refine zput (ci := 1) (C := RX1) (T := TX1) (k := 10) (v := 0) (w := .int (iI 0)) hx hb hts inW_1 tyX1 tyX1_ok nmX1 hown hK hZ hS g2.1 g2.2 rfl (by decide) k_2_50 rfl (fun G h => congrArg (fun q => Value.int (iI q)) h) rfl rfl (zno (by decide)) (D_181 W_prog_9_method_7_code_0 5 rfl rfl rfl) (fun H3 locs3 hZ3 hS3 => ?_)
  refine lv_iconst (v := iI 0) hx hb (D_3 W_prog_9_method_7_code_0 8 rfl rfl) rfl ?_
  refine lv_istore_n (lv' := [(1, .int (iI 0)), (0, .ref (ad 7 l0 0))]) hx hb (D_60 W_prog_9_method_7_code_0 9 rfl rfl) rfl hl (by decide) rfl (fun ls hl => ?_)
  refine lv_iconst (v := iI 0) hx hb (D_3 W_prog_9_method_7_code_0 10 rfl rfl) rfl ?_
  refine lv_istore_n (lv' := [(2, .int (iI 0)), (1, .int (iI 0)), (0, .ref (ad 7 l0 0))]) hx hb (D_61 W_prog_9_method_7_code_0 11 rfl rfl) rfl hl (by decide) rfl (fun ls hl => ?_)
  exact b_Scribe_spellEvent_12 X hf hZ3 hS3 (lv_sub hl [0, 1, 2] rfl)

abbrev Q_Performance_level (K : zK) (D : va_G) (ca : Nat → ClassId) (ad : Nat → Int → Nat → Nat) (L : List Nat) (r : Int) (F : zF) (B : zB) (A : Nat → Prop) : Array Value → State → Outcome → State → Prop := va_Qi (S := Unit) (fun p _ => p = iI r) (fun _ => zPo D ca ad lnC K.2 L F B A) A
def f_Performance_level_28 (K : zK) (s0 : Int) (F : zF) (B : zB) : zO := some (s0, F, B)
set_option maxHeartbeats 4000000 in
set_option maxRecDepth 100000 in
theorem b_Performance_level_28 {D : va_G} {ca : Nat → ClassId} {ad : Nat → Int → Nat → Nat} {L : List Nat} {aS vS : Nat → Nat} {A : Nat → Prop} {p : Program} {l : Launch} {e : Env} {s : State} {m : MethodId} {args : Array Value} {below : List Frame} {meth : Method} {c : Code} {K : zK} {r : Int} {F9 : zF} {B9 : zB} (X : zX D ca L aS vS A p s m args meth c prog_7_method_29_code 2 (Option.some Jvm.ClassFile.FieldType.int) "StaveHouse$Performance") {s0 : Int} {F : zF} {B : zB} {H : Heap} {locs : List Loc} {ls : Array Slot} (hf : f_Performance_level_28 K s0 F B = some (r, F9, B9)) (hZ : zH D ca ad lnC K.2 L F B A H) (hS : va_S A s.heap H locs) (hl : lv_has ls 2 []) : W p l e ({ frames := 2, cells := 0, slots := 0, locals := 33 } : Room) s m args below meth c H locs 0 0 (MQ below (Q_Performance_level K D ca ad L r F9 B9 A) args s 0 0 A) (F0 m 28 ls [.int (iI s0)]) := by
  obtain ⟨hx, hb, hr, hml, hown, hts, hlk, hK, hA, hL, hX⟩ := id X
  replace hf : (some (s0, F, B)) = some (r, F9, B9) := hf
  cases hf
  exact W.iret hx hb hr (fun t ht hW => ⟨⟨_, (), rfl, rfl, by rw [ht]; exact hZ, va_K.moved hW.alike hK⟩, hS.F ht⟩) hS.2.2 (D_172 W_prog_7_method_29_code_0 28 rfl rfl) hlk

def f_Performance_level (K : zK) (l0 : Int) (l1 : Int) (F : zF) (B : zB) : zO := if r32 l0 then if r32 l1 then (if l1 ≤ l0 then zbind (f_Performance_rise K l1 F B) (fun r4 F4 B4 => f_Performance_level_28 K (zdv (r4 * (400 - (l0 - l1))) 400) F4 B4) else zbind (f_Performance_rise K l0 F B) (fun r5 F5 B5 => f_Performance_level_28 K r5 F5 B5)) else none else none
set_option maxHeartbeats 4000000 in
set_option maxRecDepth 100000 in
theorem c_Performance_level {l : Launch} {D : va_G} {ca : Nat → ClassId} {ad : Nat → Int → Nat → Nat} {L : List Nat} {aS vS : Nat → Nat} {sz : Nat} {K : zK}  {l0 : Int} {l1 : Int} {F F9 : zF} {B B9 : zB} {r : Int} (hf : f_Performance_level K l0 l1 F B = some (r, F9, B9)) : Met l ({ cls := "StaveHouse$Performance", name := "level", desc := "(II)I" } : Jvm.MethodName) (Cond.code ({ cls := "StaveHouse$Performance", name := "level", desc := "(II)I" } : Jvm.MethodName) prog_7_method_29_code 2 (Option.some Jvm.ClassFile.FieldType.int) :: wAll) ({ frames := 2, cells := 0, slots := 0, locals := 33 } : Room) (va_Pc [.int (iI l0), .int (iI l1)] (zPre D ca ad lnC K.2 L aS vS F B sz)) (Q_Performance_level K D ca ad L r F9 B9 (zA L sz)) 0 0 (zA L sz) := by
  refine zMet (Qc := Q_Performance_level K D ca ad L r F9 B9) (lv := [(0, .int (iI l0)), (1, .int (iI l1))]) (by decide) (Nat.le_of_ble_eq_true rfl) rfl (fun A p e s m below meth c ls X hZ hS hl => ?_)
  obtain ⟨hx, hb, hr, hml, hown, hts, hlk, hK, hA, hL, hX⟩ := id X
  replace hf : (if r32 l0 then if r32 l1 then (if l1 ≤ l0 then zbind (f_Performance_rise K l1 F B) (fun r4 F4 B4 => f_Performance_level_28 K (zdv (r4 * (400 - (l0 - l1))) 400) F4 B4) else zbind (f_Performance_rise K l0 F B) (fun r5 F5 B5 => f_Performance_level_28 K r5 F5 B5)) else none else none) = some (r, F9, B9) := hf
  refine lv_iload_n hx hb (D_26 W_prog_7_method_29_code_0 0 rfl rfl) rfl (lv_at hl 0 rfl) ?_
  refine lv_iload_n hx hb (D_27 W_prog_7_method_29_code_0 1 rfl rfl) rfl (lv_at hl 1 rfl) ?_
  obtain ⟨g1, hf⟩ := gif hf
  obtain ⟨g2, hf⟩ := gif hf
  refine zge (tgt := 12) hx hb g1 g2 (D_162 W_prog_7_method_29_code_0 2 rfl rfl rfl) (by decide) (fun h3 => ?_) (fun h3 => ?_)
  · replace hf := gpos hf h3
    refine lv_iload_n hx hb (D_27 W_prog_7_method_29_code_0 12 rfl rfl) rfl (lv_at hl 1 rfl) ?_
    obtain ⟨r4, F4, B4, hc4, hf⟩ := gbind hf
    refine va_calli (va_runS (As := [.int (iI l1)]) (rest := []) ⟨hx, hb, hml, hown, hts⟩ (c_Performance_rise (l := l) hc4) (va_cwS 1 hts (gdS k_9_19 k_9_20 k_1_20 k_9_21) rfl rfl rfl (by decide +kernel) ⟨Nat.le_of_ble_eq_true rfl, Nat.le_of_ble_eq_true rfl⟩) (zPS X hZ hS [.int (iI l1)]) rfl rfl hl.1 rfl (lv_room (Nat.le_of_ble_eq_true rfl)) (D_184 W_prog_7_method_29_code_0 13 rfl rfl rfl) ⟨Nat.le_of_ble_eq_true rfl, Nat.le_of_ble_eq_true rfl⟩) hS (fun q _ h => zAin X hS q h) (zAin X hS) (fun p4 u4 t4 H4 locs4 ht4 hv4 hw4 hB4 hz4 hk4 hS4 => ?_)
    have hZ4 := zBack X ht4 hB4
    subst hw4
    refine lv_sipush (v := iI 400) hx hb (D_17 W_prog_7_method_29_code_0 16 rfl rfl rfl) (by decide) ?_
    refine lv_iload_n hx hb (D_26 W_prog_7_method_29_code_0 19 rfl rfl) rfl (lv_at hl 0 rfl) ?_
    refine lv_iload_n hx hb (D_27 W_prog_7_method_29_code_0 20 rfl rfl) rfl (lv_at hl 1 rfl) ?_
    refine zsub hx hb (D_100 W_prog_7_method_29_code_0 21 rfl rfl) ?_
    refine zsub hx hb (D_100 W_prog_7_method_29_code_0 22 rfl rfl) ?_
    refine zmul hx hb (D_104 W_prog_7_method_29_code_0 23 rfl rfl) ?_
    refine lv_sipush (v := iI 400) hx hb (D_17 W_prog_7_method_29_code_0 24 rfl rfl rfl) (by decide) ?_
    refine zdv_r hx hb (by decide) (D_108 W_prog_7_method_29_code_0 27 rfl rfl) ?_
    exact b_Performance_level_28 X hf hZ4 hS4 (lv_sub hl [] rfl)
  · replace hf := gneg hf h3
    refine lv_iload_n hx hb (D_26 W_prog_7_method_29_code_0 5 rfl rfl) rfl (lv_at hl 0 rfl) ?_
    obtain ⟨r5, F5, B5, hc5, hf⟩ := gbind hf
    refine va_calli (va_runS (As := [.int (iI l0)]) (rest := []) ⟨hx, hb, hml, hown, hts⟩ (c_Performance_rise (l := l) hc5) (va_cwS 1 hts (gdS k_9_19 k_9_20 k_1_20 k_9_21) rfl rfl rfl (by decide +kernel) ⟨Nat.le_of_ble_eq_true rfl, Nat.le_of_ble_eq_true rfl⟩) (zPS X hZ hS [.int (iI l0)]) rfl rfl hl.1 rfl (lv_room (Nat.le_of_ble_eq_true rfl)) (D_184 W_prog_7_method_29_code_0 6 rfl rfl rfl) ⟨Nat.le_of_ble_eq_true rfl, Nat.le_of_ble_eq_true rfl⟩) hS (fun q _ h => zAin X hS q h) (zAin X hS) (fun p5 u5 t5 H5 locs5 ht5 hv5 hw5 hB5 hz5 hk5 hS5 => ?_)
    have hZ5 := zBack X ht5 hB5
    subst hw5
    refine lv_goto (tgt := 28) hx hb (D_167 W_prog_7_method_29_code_0 9 rfl rfl rfl) (by decide) ?_
    exact b_Performance_level_28 X hf hZ5 hS5 (lv_sub hl [] rfl)

abbrev Q_Study_tonesAbove (K : zK) (D : va_G) (ca : Nat → ClassId) (ad : Nat → Int → Nat → Nat) (L : List Nat) (r : Int) (F : zF) (B : zB) (A : Nat → Prop) : Array Value → State → Outcome → State → Prop := va_Qi (S := Unit) (fun p _ => p = iI r) (fun _ => zPo D ca ad lnC K.2 L F B A) A
def f_Study_tonesAbove (K : zK) (l0 : Int) (l1 : Int) (l2 : Int) (F : zF) (B : zB) : zO := if 0 ≤ l0 ∧ l0 < K.2 9 then if 0 ≤ (zrm (l1 + l2) 7) ∧ (zrm (l1 + l2) 7) < 7 then if r32 (B 9 l0 10 (zrm (l1 + l2) 7)) then (if (B 9 l0 10 (zrm (l1 + l2) 7)) = 0 then some (99, F, B) else if 0 ≤ (zrm (l1 + l2) 7) ∧ (zrm (l1 + l2) 7) < ztl 5 then zbind (f_Study_alterationOf K l0 (zrm (l1 + l2) 7) F B) (fun r6 F6 B6 => if 0 ≤ l1 ∧ l1 < ztl 5 then zbind (f_Study_alterationOf K l0 l1 F6 B6) (fun r8 F8 B8 => zbind (f_Math_floorMod K ((((ztv 5 (zrm (l1 + l2) 7)) + r6) - (ztv 5 l1)) - r8) 12 F8 B8) (fun r9 F9 B9 => some (r9, F9, B9))) else none) else none) else none else none else none
set_option maxHeartbeats 4000000 in
set_option maxRecDepth 100000 in
theorem c_Study_tonesAbove {l : Launch} {D : va_G} {ca : Nat → ClassId} {ad : Nat → Int → Nat → Nat} {L : List Nat} {aS vS : Nat → Nat} {sz : Nat} {K : zK}  {l0 : Int} {l1 : Int} {l2 : Int} {F F9 : zF} {B B9 : zB} {r : Int} (hf : f_Study_tonesAbove K l0 l1 l2 F B = some (r, F9, B9)) : Met l ({ cls := "StaveHouse$Study", name := "tonesAbove", desc := "(II)I" } : Jvm.MethodName) (Cond.code ({ cls := "StaveHouse$Study", name := "tonesAbove", desc := "(II)I" } : Jvm.MethodName) prog_11_method_16_code 5 (Option.some Jvm.ClassFile.FieldType.int) :: wAll) ({ frames := 2, cells := 0, slots := 0, locals := 41 } : Room) (va_Pc [.ref (ad 9 l0 0), .int (iI l1), .int (iI l2)] (zPre D ca ad lnC K.2 L aS vS F B sz)) (Q_Study_tonesAbove K D ca ad L r F9 B9 (zA L sz)) 0 0 (zA L sz) := by
  refine zMet (Qc := Q_Study_tonesAbove K D ca ad L r F9 B9) (lv := [(0, .ref (ad 9 l0 0)), (1, .int (iI l1)), (2, .int (iI l2))]) (by decide) (Nat.le_of_ble_eq_true rfl) rfl (fun A p e s m below meth c ls X hZ hS hl => ?_)
  obtain ⟨hx, hb, hr, hml, hown, hts, hlk, hK, hA, hL, hX⟩ := id X
  replace hf : (if 0 ≤ l0 ∧ l0 < K.2 9 then if 0 ≤ (zrm (l1 + l2) 7) ∧ (zrm (l1 + l2) 7) < 7 then if r32 (B 9 l0 10 (zrm (l1 + l2) 7)) then (if (B 9 l0 10 (zrm (l1 + l2) 7)) = 0 then some (99, F, B) else if 0 ≤ (zrm (l1 + l2) 7) ∧ (zrm (l1 + l2) 7) < ztl 5 then zbind (f_Study_alterationOf K l0 (zrm (l1 + l2) 7) F B) (fun r6 F6 B6 => if 0 ≤ l1 ∧ l1 < ztl 5 then zbind (f_Study_alterationOf K l0 l1 F6 B6) (fun r8 F8 B8 => zbind (f_Math_floorMod K ((((ztv 5 (zrm (l1 + l2) 7)) + r6) - (ztv 5 l1)) - r8) 12 F8 B8) (fun r9 F9 B9 => some (r9, F9, B9))) else none) else none) else none else none else none) = some (r, F9, B9) := hf
  refine lv_iload_n hx hb (D_27 W_prog_11_method_16_code_0 0 rfl rfl) rfl (lv_at hl 1 rfl) ?_
  refine lv_iload_n hx hb (D_28 W_prog_11_method_16_code_0 1 rfl rfl) rfl (lv_at hl 2 rfl) ?_
  refine zadd hx hb (D_96 W_prog_11_method_16_code_0 2 rfl rfl) ?_
  refine lv_bipush (v := iI 7) hx hb (D_16 W_prog_11_method_16_code_0 3 rfl rfl rfl) (by decide) ?_
  refine zrm_r hx hb (by decide) (D_112 W_prog_11_method_16_code_0 5 rfl rfl) ?_
  refine lv_istore_n (lv' := [(3, .int (iI (zrm (l1 + l2) 7))), (0, .ref (ad 9 l0 0)), (1, .int (iI l1)), (2, .int (iI l2))]) hx hb (D_62 W_prog_11_method_16_code_0 6 rfl rfl) rfl hl (by decide) rfl (fun ls hl => ?_)
  refine lv_aload_n hx hb (D_42 W_prog_11_method_16_code_0 7 rfl rfl) rfl (lv_at hl 1 rfl) ?_
  obtain ⟨g1, hf⟩ := gif hf
  refine zget (ci := 9) (C := RX9) (T := TX9) (v := .ref (ad 9 l0 (10 + 1))) (k := 10) hx hb hts inW_9 hown hK hZ g1.1 g1.2 rfl (by decide) k_5_211 rfl (D_180 W_prog_11_method_16_code_0 8 rfl rfl rfl) ?_
  refine lv_iload_n hx hb (D_29 W_prog_11_method_16_code_0 11 rfl rfl) rfl (lv_at hl 0 rfl) ?_
  obtain ⟨g2, hf⟩ := gif hf
  refine zald (ci := 9) (k := 10) hx hb hK rfl hZ g1.1 g1.2 rfl (Nat.le_of_ble_eq_true rfl) g2.1 g2.2 (D_46 W_prog_11_method_16_code_0 12 rfl rfl) ?_
  obtain ⟨g3, hf⟩ := gif hf
  refine z0ne (tgt := 19) hx hb g3 (D_154 W_prog_11_method_16_code_0 13 rfl rfl rfl) (by decide) (fun h4 => ?_) (fun h4 => ?_)
  · replace hf := gneg hf h4
    have hnw := hX.2.2.2.2.2.1.2 _ (List.mem_of_getElem? (i := 2) rfl)
    refine va_getsN hx hb (hX.2.2.2.2.2.2 5 _ rfl).1 hS hown (va_Nw.use rfl hnw) (fun _ h => h) (D_178 W_prog_11_method_16_code_0 19 rfl rfl rfl) ?_
    refine W.eq (g2 := F0 m 22 ls [.ref (vS (1000 + 5))]) rfl ?_
    refine lv_iload_n hx hb (D_29 W_prog_11_method_16_code_0 22 rfl rfl) rfl (lv_at hl 0 rfl) ?_
    obtain ⟨g5, hf⟩ := gif hf
    refine va_ti (v := .int (iI (ztv 5 (zrm (l1 + l2) 7)))) hx hb (ztI hX (by decide) (by decide)) hS (zt_in (by decide) g5) (ztI_v (by decide) g5) (D_46 W_prog_11_method_16_code_0 23 rfl rfl) ?_
    refine lv_aload_n hx hb (D_42 W_prog_11_method_16_code_0 24 rfl rfl) rfl (lv_at hl 1 rfl) ?_
    refine lv_iload_n hx hb (D_29 W_prog_11_method_16_code_0 25 rfl rfl) rfl (lv_at hl 0 rfl) ?_
    obtain ⟨r6, F6, B6, hc6, hf⟩ := gbind hf
    refine va_calli (va_runV (As := [.int (iI (zrm (l1 + l2) 7))]) (rest := [.int (iI (ztv 5 (zrm (l1 + l2) 7)))]) ⟨hx, hb, hml, hown, hts⟩ (c_Study_alterationOf (l := l) hc6) (cwV 1 hts (gdV k_9_57 k_9_59 ks_128 k_1_19 k_9_60) rfl rfl rfl (by decide +kernel) ⟨Nat.le_of_ble_eq_true rfl, Nat.le_of_ble_eq_true rfl⟩) (zPV X hZ hS (ci := 9) g1.1 g1.2 (r := (RX9, TX9, 11)) rfl [.int (iI (zrm (l1 + l2) 7))]) rfl rfl hl.1 rfl (lv_room (Nat.le_of_ble_eq_true rfl)) (D_182 W_prog_11_method_16_code_0 26 rfl rfl rfl) ⟨Nat.le_of_ble_eq_true rfl, Nat.le_of_ble_eq_true rfl⟩) hS (fun q _ h => zAin X hS q h) (zAin X hS) (fun p6 u6 t6 H6 locs6 ht6 hv6 hw6 hB6 hz6 hk6 hS6 => ?_)
    have hZ6 := zBack X ht6 hB6
    subst hw6
    refine zadd hx hb (D_96 W_prog_11_method_16_code_0 29 rfl rfl) ?_
    refine lv_istore (lv' := [(4, .int (iI ((ztv 5 (zrm (l1 + l2) 7)) + r6))), (3, .int (iI (zrm (l1 + l2) 7))), (0, .ref (ad 9 l0 0)), (1, .int (iI l1)), (2, .int (iI l2))]) hx hb (D_54 W_prog_11_method_16_code_0 30 rfl rfl) hl (by decide) rfl (fun ls hl => ?_)
    refine lv_iload hx hb (D_21 W_prog_11_method_16_code_32 0 rfl rfl) (lv_at hl 0 rfl) ?_
    have hnw := hX.2.2.2.2.2.1.2 _ (List.mem_of_getElem? (i := 2) rfl)
    refine va_getsN hx hb (hX.2.2.2.2.2.2 5 _ rfl).1 hS6 hown (va_Nw.use rfl hnw) (fun _ h => h) (D_178 W_prog_11_method_16_code_32 2 rfl rfl rfl) ?_
    refine W.eq (g2 := F0 m 37 ls [.ref (vS (1000 + 5)), .int (iI ((ztv 5 (zrm (l1 + l2) 7)) + r6))]) rfl ?_
    refine lv_iload_n hx hb (D_27 W_prog_11_method_16_code_32 5 rfl rfl) rfl (lv_at hl 3 rfl) ?_
    obtain ⟨g7, hf⟩ := gif hf
    refine va_ti (v := .int (iI (ztv 5 l1))) hx hb (ztI hX (by decide) (by decide)) hS6 (zt_in (by decide) g7) (ztI_v (by decide) g7) (D_46 W_prog_11_method_16_code_32 6 rfl rfl) ?_
    refine zsub hx hb (D_100 W_prog_11_method_16_code_32 7 rfl rfl) ?_
    refine lv_aload_n hx hb (D_42 W_prog_11_method_16_code_32 8 rfl rfl) rfl (lv_at hl 2 rfl) ?_
    refine lv_iload_n hx hb (D_27 W_prog_11_method_16_code_32 9 rfl rfl) rfl (lv_at hl 3 rfl) ?_
    obtain ⟨r8, F8, B8, hc8, hf⟩ := gbind hf
    refine va_calli (va_runV (As := [.int (iI l1)]) (rest := [.int (iI (((ztv 5 (zrm (l1 + l2) 7)) + r6) - (ztv 5 l1)))]) ⟨hx, hb, hml, hown, hts⟩ (c_Study_alterationOf (l := l) hc8) (cwV 1 hts (gdV k_9_57 k_9_59 ks_128 k_1_19 k_9_60) rfl rfl rfl (by decide +kernel) ⟨Nat.le_of_ble_eq_true rfl, Nat.le_of_ble_eq_true rfl⟩) (zPV X hZ6 hS6 (ci := 9) g1.1 g1.2 (r := (RX9, TX9, 11)) rfl [.int (iI l1)]) rfl rfl hl.1 rfl (lv_room (Nat.le_of_ble_eq_true rfl)) (D_182 W_prog_11_method_16_code_32 10 rfl rfl rfl) ⟨Nat.le_of_ble_eq_true rfl, Nat.le_of_ble_eq_true rfl⟩) hS6 (fun q _ h => zAin X hS6 q h) (zAin X hS6) (fun p8 u8 t8 H8 locs8 ht8 hv8 hw8 hB8 hz8 hk8 hS8 => ?_)
    have hZ8 := zBack X ht8 hB8
    subst hw8
    refine zsub hx hb (D_100 W_prog_11_method_16_code_32 13 rfl rfl) ?_
    refine lv_bipush (v := iI 12) hx hb (D_16 W_prog_11_method_16_code_32 14 rfl rfl rfl) (by decide) ?_
    obtain ⟨r9, F9, B9, hc9, hf⟩ := gbind hf
    refine va_calli (va_runS (As := [.int (iI ((((ztv 5 (zrm (l1 + l2) 7)) + r6) - (ztv 5 l1)) - r8)), .int (iI 12)]) (rest := []) ⟨hx, hb, hml, hown, hts⟩ (c_Math_floorMod (l := l) hc9) (va_cwS 2 hts (gdS k_6_38 k_4_71 k_1_3 k_4_72) rfl rfl rfl (by decide +kernel) ⟨Nat.le_of_ble_eq_true rfl, Nat.le_of_ble_eq_true rfl⟩) (zPS X hZ8 hS8 [.int (iI ((((ztv 5 (zrm (l1 + l2) 7)) + r6) - (ztv 5 l1)) - r8)), .int (iI 12)]) rfl rfl hl.1 rfl (lv_room (Nat.le_of_ble_eq_true rfl)) (D_184 W_prog_11_method_16_code_32 16 rfl rfl rfl) ⟨Nat.le_of_ble_eq_true rfl, Nat.le_of_ble_eq_true rfl⟩) hS8 (fun q _ h => zAin X hS8 q h) (zAin X hS8) (fun p9 u9 t9 H9 locs9 ht9 hv9 hw9 hB9 hz9 hk9 hS9 => ?_)
    have hZ9 := zBack X ht9 hB9
    subst hw9
    cases hf
    exact W.iret hx hb hr (fun t ht hW => ⟨⟨_, (), rfl, rfl, by rw [ht]; exact hZ9, va_K.moved hW.alike hK⟩, hS9.F ht⟩) hS9.2.2 (D_172 W_prog_11_method_16_code_32 19 rfl rfl) hlk
  · replace hf := gpos hf h4
    refine lv_bipush (v := iI 99) hx hb (D_16 W_prog_11_method_16_code_0 16 rfl rfl rfl) (by decide) ?_
    cases hf
    exact W.iret hx hb hr (fun t ht hW => ⟨⟨_, (), rfl, rfl, by rw [ht]; exact hZ, va_K.moved hW.alike hK⟩, hS.F ht⟩) hS.2.2 (D_172 W_prog_11_method_16_code_0 18 rfl rfl) hlk

abbrev Q_Study_bassLetter (K : zK) (D : va_G) (ca : Nat → ClassId) (ad : Nat → Int → Nat → Nat) (L : List Nat) (r : Int) (F : zF) (B : zB) (A : Nat → Prop) : Array Value → State → Outcome → State → Prop := va_Qi (S := Unit) (fun p _ => p = iI r) (fun _ => zPo D ca ad lnC K.2 L F B A) A
def f_Study_bassLetter_100 (rec10 : Int → Int → Int → Int → Int → Int → zF → zB → zO) (K : zK) (l5 : Int) (l4 : Int) (l3 : Int) (l0 : Int) (l1 : Int) (l2 : Int) (F : zF) (B : zB) : zO := rec10 (l5 + 1) l4 l3 l0 l1 l2 F B
set_option maxHeartbeats 4000000 in
set_option maxRecDepth 100000 in
theorem b_Study_bassLetter_100 {D : va_G} {ca : Nat → ClassId} {ad : Nat → Int → Nat → Nat} {L : List Nat} {aS vS : Nat → Nat} {A : Nat → Prop} {p : Program} {l : Launch} {e : Env} {s : State} {m : MethodId} {args : Array Value} {below : List Frame} {meth : Method} {c : Code} {K : zK} {r : Int} {F9 : zF} {B9 : zB} (X : zX D ca L aS vS A p s m args meth c prog_11_method_17_code 9 (Option.some Jvm.ClassFile.FieldType.int) "StaveHouse$Study") {rec10 : Int → Int → Int → Int → Int → Int → zF → zB → zO} (hrec10 : ∀ {l5 : Int} {l4 : Int} {l3 : Int} {l0 : Int} {l1 : Int} {l2 : Int} {F : zF} {B : zB} {H : Heap} {locs : List Loc} {ls : Array Slot}, rec10 l5 l4 l3 l0 l1 l2 F B = some (r, F9, B9) → zH D ca ad lnC K.2 L F B A H → va_S A s.heap H locs → lv_has ls 9 [(5, .int (iI l5)), (4, .int (iI l4)), (3, .int (iI l3)), (0, .ref (ad 9 l0 0)), (1, .ref (ad 6 l1 0)), (2, .int (iI l2))] → W p l e ({ frames := 3, cells := 0, slots := 0, locals := 63 } : Room) s m args below meth c H locs 0 0 (MQ below (Q_Study_bassLetter K D ca ad L r F9 B9 A) args s 0 0 A) (F0 m 10 ls [])) {l5 : Int} {l4 : Int} {l3 : Int} {l0 : Int} {l1 : Int} {l2 : Int} {F : zF} {B : zB} {H : Heap} {locs : List Loc} {ls : Array Slot} (hf : f_Study_bassLetter_100 rec10 K l5 l4 l3 l0 l1 l2 F B = some (r, F9, B9)) (hZ : zH D ca ad lnC K.2 L F B A H) (hS : va_S A s.heap H locs) (hl : lv_has ls 9 [(5, .int (iI l5)), (4, .int (iI l4)), (3, .int (iI l3)), (0, .ref (ad 9 l0 0)), (1, .ref (ad 6 l1 0)), (2, .int (iI l2))]) : W p l e ({ frames := 3, cells := 0, slots := 0, locals := 63 } : Room) s m args below meth c H locs 0 0 (MQ below (Q_Study_bassLetter K D ca ad L r F9 B9 A) args s 0 0 A) (F0 m 100 ls []) := by
  obtain ⟨hx, hb, hr, hml, hown, hts, hlk, hK, hA, hL, hX⟩ := id X
  replace hf : (rec10 (l5 + 1) l4 l3 l0 l1 l2 F B) = some (r, F9, B9) := hf
  refine lv_iinc (v := iI (l5 + 1)) (lv' := [(5, .int (iI (l5 + 1))), (4, .int (iI l4)), (3, .int (iI l3)), (0, .ref (ad 9 l0 0)), (1, .ref (ad 6 l1 0)), (2, .int (iI l2))]) hx hb d_11_17_100 hl (k := 0) rfl (iI_add _ 1) (by decide) rfl (fun ls hl => ?_)
  refine lv_goto (tgt := 10) hx hb (D_167 W_prog_11_method_17_code_96 7 rfl rfl rfl) (by decide) ?_
  exact hrec10 hf hZ hS (lv_sub hl [0, 1, 2, 3, 4, 5] rfl)

def f_Study_bassLetter_94 (rec10 : Int → Int → Int → Int → Int → Int → zF → zB → zO) (rec32 : Int → Int → Int → Int → Int → Int → Int → Int → zF → zB → zO) (K : zK) (l7 : Int) (l6 : Int) (l5 : Int) (l4 : Int) (l3 : Int) (l0 : Int) (l1 : Int) (l2 : Int) (F : zF) (B : zB) : zO := rec32 (l7 + 1) l6 l5 l4 l3 l0 l1 l2 F B
set_option maxHeartbeats 4000000 in
set_option maxRecDepth 100000 in
theorem b_Study_bassLetter_94 {D : va_G} {ca : Nat → ClassId} {ad : Nat → Int → Nat → Nat} {L : List Nat} {aS vS : Nat → Nat} {A : Nat → Prop} {p : Program} {l : Launch} {e : Env} {s : State} {m : MethodId} {args : Array Value} {below : List Frame} {meth : Method} {c : Code} {K : zK} {r : Int} {F9 : zF} {B9 : zB} (X : zX D ca L aS vS A p s m args meth c prog_11_method_17_code 9 (Option.some Jvm.ClassFile.FieldType.int) "StaveHouse$Study") {rec10 : Int → Int → Int → Int → Int → Int → zF → zB → zO} {rec32 : Int → Int → Int → Int → Int → Int → Int → Int → zF → zB → zO} (hrec10 : ∀ {l5 : Int} {l4 : Int} {l3 : Int} {l0 : Int} {l1 : Int} {l2 : Int} {F : zF} {B : zB} {H : Heap} {locs : List Loc} {ls : Array Slot}, rec10 l5 l4 l3 l0 l1 l2 F B = some (r, F9, B9) → zH D ca ad lnC K.2 L F B A H → va_S A s.heap H locs → lv_has ls 9 [(5, .int (iI l5)), (4, .int (iI l4)), (3, .int (iI l3)), (0, .ref (ad 9 l0 0)), (1, .ref (ad 6 l1 0)), (2, .int (iI l2))] → W p l e ({ frames := 3, cells := 0, slots := 0, locals := 63 } : Room) s m args below meth c H locs 0 0 (MQ below (Q_Study_bassLetter K D ca ad L r F9 B9 A) args s 0 0 A) (F0 m 10 ls [])) (hrec32 : ∀ {l7 : Int} {l6 : Int} {l5 : Int} {l4 : Int} {l3 : Int} {l0 : Int} {l1 : Int} {l2 : Int} {F : zF} {B : zB} {H : Heap} {locs : List Loc} {ls : Array Slot}, rec32 l7 l6 l5 l4 l3 l0 l1 l2 F B = some (r, F9, B9) → zH D ca ad lnC K.2 L F B A H → va_S A s.heap H locs → lv_has ls 9 [(7, .int (iI l7)), (6, va_rf (zrf ad 1 l6)), (5, .int (iI l5)), (4, .int (iI l4)), (3, .int (iI l3)), (0, .ref (ad 9 l0 0)), (1, .ref (ad 6 l1 0)), (2, .int (iI l2))] → W p l e ({ frames := 3, cells := 0, slots := 0, locals := 63 } : Room) s m args below meth c H locs 0 0 (MQ below (Q_Study_bassLetter K D ca ad L r F9 B9 A) args s 0 0 A) (F0 m 32 ls [])) {l7 : Int} {l6 : Int} {l5 : Int} {l4 : Int} {l3 : Int} {l0 : Int} {l1 : Int} {l2 : Int} {F : zF} {B : zB} {H : Heap} {locs : List Loc} {ls : Array Slot} (hf : f_Study_bassLetter_94 rec10 rec32 K l7 l6 l5 l4 l3 l0 l1 l2 F B = some (r, F9, B9)) (hZ : zH D ca ad lnC K.2 L F B A H) (hS : va_S A s.heap H locs) (hl : lv_has ls 9 [(7, .int (iI l7)), (6, va_rf (zrf ad 1 l6)), (5, .int (iI l5)), (4, .int (iI l4)), (3, .int (iI l3)), (0, .ref (ad 9 l0 0)), (1, .ref (ad 6 l1 0)), (2, .int (iI l2))]) : W p l e ({ frames := 3, cells := 0, slots := 0, locals := 63 } : Room) s m args below meth c H locs 0 0 (MQ below (Q_Study_bassLetter K D ca ad L r F9 B9 A) args s 0 0 A) (F0 m 94 ls []) := by
  obtain ⟨hx, hb, hr, hml, hown, hts, hlk, hK, hA, hL, hX⟩ := id X
  replace hf : (rec32 (l7 + 1) l6 l5 l4 l3 l0 l1 l2 F B) = some (r, F9, B9) := hf
  refine lv_iinc (v := iI (l7 + 1)) (lv' := [(7, .int (iI (l7 + 1))), (6, va_rf (zrf ad 1 l6)), (5, .int (iI l5)), (4, .int (iI l4)), (3, .int (iI l3)), (0, .ref (ad 9 l0 0)), (1, .ref (ad 6 l1 0)), (2, .int (iI l2))]) hx hb d_11_17_94 hl (k := 0) rfl (iI_add _ 1) (by decide) (by cases zrf ad 1 l6 <;> rfl) (fun ls hl => ?_)
  refine lv_goto (tgt := 32) hx hb (D_167 W_prog_11_method_17_code_96 1 rfl rfl rfl) (by decide) ?_
  exact hrec32 hf hZ hS (lv_sub hl [0, 1, 2, 3, 4, 5, 6, 7] rfl)

def f_Study_bassLetter_81 (rec10 : Int → Int → Int → Int → Int → Int → zF → zB → zO) (rec32 : Int → Int → Int → Int → Int → Int → Int → Int → zF → zB → zO) (K : zK) (l8 : Int) (l7 : Int) (l6 : Int) (l5 : Int) (l0 : Int) (l1 : Int) (l2 : Int) (F : zF) (B : zB) : zO := if 0 ≤ l6 ∧ l6 < K.2 1 then if 0 ≤ l7 ∧ l7 < 6 then f_Study_bassLetter_94 rec10 rec32 K l7 l6 l5 (B 1 l6 12 l7) l8 l0 l1 l2 F B else none else none
set_option maxHeartbeats 4000000 in
set_option maxRecDepth 100000 in
theorem b_Study_bassLetter_81 {D : va_G} {ca : Nat → ClassId} {ad : Nat → Int → Nat → Nat} {L : List Nat} {aS vS : Nat → Nat} {A : Nat → Prop} {p : Program} {l : Launch} {e : Env} {s : State} {m : MethodId} {args : Array Value} {below : List Frame} {meth : Method} {c : Code} {K : zK} {r : Int} {F9 : zF} {B9 : zB} (X : zX D ca L aS vS A p s m args meth c prog_11_method_17_code 9 (Option.some Jvm.ClassFile.FieldType.int) "StaveHouse$Study") {rec10 : Int → Int → Int → Int → Int → Int → zF → zB → zO} {rec32 : Int → Int → Int → Int → Int → Int → Int → Int → zF → zB → zO} (hrec10 : ∀ {l5 : Int} {l4 : Int} {l3 : Int} {l0 : Int} {l1 : Int} {l2 : Int} {F : zF} {B : zB} {H : Heap} {locs : List Loc} {ls : Array Slot}, rec10 l5 l4 l3 l0 l1 l2 F B = some (r, F9, B9) → zH D ca ad lnC K.2 L F B A H → va_S A s.heap H locs → lv_has ls 9 [(5, .int (iI l5)), (4, .int (iI l4)), (3, .int (iI l3)), (0, .ref (ad 9 l0 0)), (1, .ref (ad 6 l1 0)), (2, .int (iI l2))] → W p l e ({ frames := 3, cells := 0, slots := 0, locals := 63 } : Room) s m args below meth c H locs 0 0 (MQ below (Q_Study_bassLetter K D ca ad L r F9 B9 A) args s 0 0 A) (F0 m 10 ls [])) (hrec32 : ∀ {l7 : Int} {l6 : Int} {l5 : Int} {l4 : Int} {l3 : Int} {l0 : Int} {l1 : Int} {l2 : Int} {F : zF} {B : zB} {H : Heap} {locs : List Loc} {ls : Array Slot}, rec32 l7 l6 l5 l4 l3 l0 l1 l2 F B = some (r, F9, B9) → zH D ca ad lnC K.2 L F B A H → va_S A s.heap H locs → lv_has ls 9 [(7, .int (iI l7)), (6, va_rf (zrf ad 1 l6)), (5, .int (iI l5)), (4, .int (iI l4)), (3, .int (iI l3)), (0, .ref (ad 9 l0 0)), (1, .ref (ad 6 l1 0)), (2, .int (iI l2))] → W p l e ({ frames := 3, cells := 0, slots := 0, locals := 63 } : Room) s m args below meth c H locs 0 0 (MQ below (Q_Study_bassLetter K D ca ad L r F9 B9 A) args s 0 0 A) (F0 m 32 ls [])) {l8 : Int} {l7 : Int} {l6 : Int} {l5 : Int} {l0 : Int} {l1 : Int} {l2 : Int} {F : zF} {B : zB} {H : Heap} {locs : List Loc} {ls : Array Slot} (hf : f_Study_bassLetter_81 rec10 rec32 K l8 l7 l6 l5 l0 l1 l2 F B = some (r, F9, B9)) (hZ : zH D ca ad lnC K.2 L F B A H) (hS : va_S A s.heap H locs) (hl : lv_has ls 9 [(8, .int (iI l8)), (7, .int (iI l7)), (6, va_rf (zrf ad 1 l6)), (5, .int (iI l5)), (0, .ref (ad 9 l0 0)), (1, .ref (ad 6 l1 0)), (2, .int (iI l2))]) : W p l e ({ frames := 3, cells := 0, slots := 0, locals := 63 } : Room) s m args below meth c H locs 0 0 (MQ below (Q_Study_bassLetter K D ca ad L r F9 B9 A) args s 0 0 A) (F0 m 81 ls []) := by
  obtain ⟨hx, hb, hr, hml, hown, hts, hlk, hK, hA, hL, hX⟩ := id X
  replace hf : (if 0 ≤ l6 ∧ l6 < K.2 1 then if 0 ≤ l7 ∧ l7 < 6 then f_Study_bassLetter_94 rec10 rec32 K l7 l6 l5 (B 1 l6 12 l7) l8 l0 l1 l2 F B else none else none) = some (r, F9, B9) := hf
  refine lv_iload hx hb (D_21 W_prog_11_method_17_code_64 17 rfl rfl) (lv_at hl 0 rfl) ?_
  refine lv_istore_n (lv' := [(3, .int (iI l8)), (8, .int (iI l8)), (7, .int (iI l7)), (6, va_rf (zrf ad 1 l6)), (5, .int (iI l5)), (0, .ref (ad 9 l0 0)), (1, .ref (ad 6 l1 0)), (2, .int (iI l2))]) hx hb (D_62 W_prog_11_method_17_code_64 19 rfl rfl) rfl hl (by decide) rfl (fun ls hl => ?_)
  refine zaload hx hb (D_25 W_prog_11_method_17_code_64 20 rfl rfl) (lv_at hl 3 rfl) ?_
  obtain ⟨g21, hf⟩ := gif hf
  refine zunrf g21.1 ?_
  refine zget (ci := 1) (C := RX1) (T := TX1) (v := .ref (ad 1 l6 (12 + 1))) (k := 12) hx hb hts inW_1 hown hK hZ g21.1 g21.2 rfl (by decide) k_2_58 rfl (D_180 W_prog_11_method_17_code_64 22 rfl rfl rfl) ?_
  refine lv_iload hx hb (D_21 W_prog_11_method_17_code_64 25 rfl rfl) (lv_at hl 2 rfl) ?_
  obtain ⟨g22, hf⟩ := gif hf
  refine zald (ci := 1) (k := 12) hx hb hK rfl hZ g21.1 g21.2 rfl (Nat.le_of_ble_eq_true rfl) g22.1 g22.2 (D_46 W_prog_11_method_17_code_64 27 rfl rfl) ?_
  refine lv_istore (lv' := [(4, .int (iI (B 1 l6 12 l7))), (3, .int (iI l8)), (8, .int (iI l8)), (7, .int (iI l7)), (6, va_rf (zrf ad 1 l6)), (5, .int (iI l5)), (0, .ref (ad 9 l0 0)), (1, .ref (ad 6 l1 0)), (2, .int (iI l2))]) hx hb (D_54 W_prog_11_method_17_code_64 28 rfl rfl) hl (by decide) rfl (fun ls hl => ?_)
  exact b_Study_bassLetter_94 X hrec10 hrec32 hf hZ hS (lv_sub hl [3, 4, 5, 0, 1, 6, 7, 8] rfl)

def f_Study_bassLetter_32 (rec10 : Int → Int → Int → Int → Int → Int → zF → zB → zO) (K : zK) : Nat → Int → Int → Int → Int → Int → Int → Int → Int → zF → zB → zO
  | 0, _, _, _, _, _, _, _, _, _, _ => none
  | n + 1, l7, l6, l5, l4, l3, l0, l1, l2, F, B => (if l6 < 0 then f_Study_bassLetter_100 rec10 K l5 l4 l3 l0 l1 l2 F B else if 0 ≤ l6 ∧ l6 < K.2 1 then if r32 l7 then if r32 (F 1 l6 10) then (if (F 1 l6 10) ≤ l7 then f_Study_bassLetter_100 rec10 K l5 l4 l3 l0 l1 l2 F B else zbind (f_Event_tone K l6 l7 F B) (fun r12 F12 B12 => if r32 r12 then if r32 l3 then (if r12 < l3 then f_Study_bassLetter_81 rec10 (f_Study_bassLetter_32 rec10 K n) K r12 l7 l6 l5 l0 l1 l2 F12 B12 else (if r12 = l3 then if 0 ≤ l7 ∧ l7 < 6 then if r32 (B12 1 l6 12 l7) then if r32 l4 then (if l4 ≤ (B12 1 l6 12 l7) then f_Study_bassLetter_94 rec10 (f_Study_bassLetter_32 rec10 K n) K l7 l6 l5 l4 l3 l0 l1 l2 F12 B12 else f_Study_bassLetter_81 rec10 (f_Study_bassLetter_32 rec10 K n) K r12 l7 l6 l5 l0 l1 l2 F12 B12) else none else none else none else f_Study_bassLetter_94 rec10 (f_Study_bassLetter_32 rec10 K n) K l7 l6 l5 l4 l3 l0 l1 l2 F12 B12)) else none else none)) else none else none else none)
set_option maxHeartbeats 4000000 in
set_option maxRecDepth 100000 in
theorem b_Study_bassLetter_32 {D : va_G} {ca : Nat → ClassId} {ad : Nat → Int → Nat → Nat} {L : List Nat} {aS vS : Nat → Nat} {A : Nat → Prop} {p : Program} {l : Launch} {e : Env} {s : State} {m : MethodId} {args : Array Value} {below : List Frame} {meth : Method} {c : Code} {K : zK} {r : Int} {F9 : zF} {B9 : zB} (X : zX D ca L aS vS A p s m args meth c prog_11_method_17_code 9 (Option.some Jvm.ClassFile.FieldType.int) "StaveHouse$Study") {rec10 : Int → Int → Int → Int → Int → Int → zF → zB → zO} (hrec10 : ∀ {l5 : Int} {l4 : Int} {l3 : Int} {l0 : Int} {l1 : Int} {l2 : Int} {F : zF} {B : zB} {H : Heap} {locs : List Loc} {ls : Array Slot}, rec10 l5 l4 l3 l0 l1 l2 F B = some (r, F9, B9) → zH D ca ad lnC K.2 L F B A H → va_S A s.heap H locs → lv_has ls 9 [(5, .int (iI l5)), (4, .int (iI l4)), (3, .int (iI l3)), (0, .ref (ad 9 l0 0)), (1, .ref (ad 6 l1 0)), (2, .int (iI l2))] → W p l e ({ frames := 3, cells := 0, slots := 0, locals := 63 } : Room) s m args below meth c H locs 0 0 (MQ below (Q_Study_bassLetter K D ca ad L r F9 B9 A) args s 0 0 A) (F0 m 10 ls [])) : ∀ {n : Nat} {l7 : Int} {l6 : Int} {l5 : Int} {l4 : Int} {l3 : Int} {l0 : Int} {l1 : Int} {l2 : Int} {F : zF} {B : zB} {H : Heap} {locs : List Loc} {ls : Array Slot}, f_Study_bassLetter_32 rec10 K n l7 l6 l5 l4 l3 l0 l1 l2 F B = some (r, F9, B9) → zH D ca ad lnC K.2 L F B A H → va_S A s.heap H locs → lv_has ls 9 [(7, .int (iI l7)), (6, va_rf (zrf ad 1 l6)), (5, .int (iI l5)), (4, .int (iI l4)), (3, .int (iI l3)), (0, .ref (ad 9 l0 0)), (1, .ref (ad 6 l1 0)), (2, .int (iI l2))] → W p l e ({ frames := 3, cells := 0, slots := 0, locals := 63 } : Room) s m args below meth c H locs 0 0 (MQ below (Q_Study_bassLetter K D ca ad L r F9 B9 A) args s 0 0 A) (F0 m 32 ls []) := by
  obtain ⟨hx, hb, hr, hml, hown, hts, hlk, hK, hA, hL, hX⟩ := id X
  intro n
  induction n with
  | zero =>
    intros
    rename_i hf _ _ _
    cases hf
  | succ n ih =>
    intro l7 l6 l5 l4 l3 l0 l1 l2 F B H locs ls hf hZ hS hl
    replace hf : ((if l6 < 0 then f_Study_bassLetter_100 rec10 K l5 l4 l3 l0 l1 l2 F B else if 0 ≤ l6 ∧ l6 < K.2 1 then if r32 l7 then if r32 (F 1 l6 10) then (if (F 1 l6 10) ≤ l7 then f_Study_bassLetter_100 rec10 K l5 l4 l3 l0 l1 l2 F B else zbind (f_Event_tone K l6 l7 F B) (fun r12 F12 B12 => if r32 r12 then if r32 l3 then (if r12 < l3 then f_Study_bassLetter_81 rec10 (f_Study_bassLetter_32 rec10 K n) K r12 l7 l6 l5 l0 l1 l2 F12 B12 else (if r12 = l3 then if 0 ≤ l7 ∧ l7 < 6 then if r32 (B12 1 l6 12 l7) then if r32 l4 then (if l4 ≤ (B12 1 l6 12 l7) then f_Study_bassLetter_94 rec10 (f_Study_bassLetter_32 rec10 K n) K l7 l6 l5 l4 l3 l0 l1 l2 F12 B12 else f_Study_bassLetter_81 rec10 (f_Study_bassLetter_32 rec10 K n) K r12 l7 l6 l5 l0 l1 l2 F12 B12) else none else none else none else f_Study_bassLetter_94 rec10 (f_Study_bassLetter_32 rec10 K n) K l7 l6 l5 l4 l3 l0 l1 l2 F12 B12)) else none else none)) else none else none else none)) = some (r, F9, B9) := hf
    refine zaload hx hb (D_25 W_prog_11_method_17_code_32 0 rfl rfl) (lv_at hl 1 rfl) ?_
    refine zifnull (tgt := 100) hx hb (D_198 W_prog_11_method_17_code_32 2 rfl rfl rfl) (by decide) (fun h7 => ?_) (fun h7 => ?_)
    · replace hf := gpos hf h7
      exact b_Study_bassLetter_100 X hrec10 hf hZ hS (lv_sub hl [2, 3, 4, 5, 6, 7] rfl)
    · replace hf := gneg hf h7
      refine lv_iload hx hb (D_21 W_prog_11_method_17_code_32 5 rfl rfl) (lv_at hl 0 rfl) ?_
      refine zaload hx hb (D_25 W_prog_11_method_17_code_32 7 rfl rfl) (lv_at hl 1 rfl) ?_
      obtain ⟨g8, hf⟩ := gif hf
      refine zunrf g8.1 ?_
      refine zget (ci := 1) (C := RX1) (T := TX1) (v := .int (iI (F 1 l6 10))) (k := 10) hx hb hts inW_1 hown hK hZ g8.1 g8.2 rfl (by decide) k_2_51 rfl (D_180 W_prog_11_method_17_code_32 9 rfl rfl rfl) ?_
      obtain ⟨g9, hf⟩ := gif hf
      obtain ⟨g10, hf⟩ := gif hf
      refine zge (tgt := 100) hx hb g9 g10 (D_162 W_prog_11_method_17_code_32 12 rfl rfl rfl) (by decide) (fun h11 => ?_) (fun h11 => ?_)
      · replace hf := gpos hf h11
        exact b_Study_bassLetter_100 X hrec10 hf hZ hS (lv_sub hl [2, 3, 4, 5, 6, 7] rfl)
      · replace hf := gneg hf h11
        refine zaload hx hb (D_25 W_prog_11_method_17_code_32 15 rfl rfl) (lv_at hl 1 rfl) ?_
        refine lv_iload hx hb (D_21 W_prog_11_method_17_code_32 17 rfl rfl) (lv_at hl 0 rfl) ?_
        refine W.eq (g2 := F0 m 51 ls [.int (iI l7), .ref (ad 1 l6 0)]) (by rw [zrf_pos (ad := ad) (t := 1) g8.1]; try rfl) ?_
        obtain ⟨r12, F12, B12, hc12, hf⟩ := gbind hf
        refine va_calli (va_runV (As := [.int (iI l7)]) (rest := []) ⟨hx, hb, hml, hown, hts⟩ (c_Event_tone (l := l) hc12) (cwV 1 hts (gdV k_6_26 k_6_22 k_6_23 k_1_8 k_6_24) rfl rfl rfl (by decide +kernel) ⟨Nat.le_of_ble_eq_true rfl, Nat.le_of_ble_eq_true rfl⟩) (zPV X hZ hS (ci := 1) g8.1 g8.2 (r := (RX1, TX1, 14)) rfl [.int (iI l7)]) rfl rfl hl.1 rfl (lv_room (Nat.le_of_ble_eq_true rfl)) (D_182 W_prog_11_method_17_code_32 19 rfl rfl rfl) ⟨Nat.le_of_ble_eq_true rfl, Nat.le_of_ble_eq_true rfl⟩) hS (fun q _ h => zAin X hS q h) (zAin X hS) (fun p12 u12 t12 H12 locs12 ht12 hv12 hw12 hB12 hz12 hk12 hS12 => ?_)
        have hZ12 := zBack X ht12 hB12
        subst hw12
        refine lv_istore (lv' := [(8, .int (iI r12)), (7, .int (iI l7)), (6, va_rf (zrf ad 1 l6)), (5, .int (iI l5)), (4, .int (iI l4)), (3, .int (iI l3)), (0, .ref (ad 9 l0 0)), (1, .ref (ad 6 l1 0)), (2, .int (iI l2))]) hx hb (D_54 W_prog_11_method_17_code_32 22 rfl rfl) hl (by decide) rfl (fun ls hl => ?_)
        refine lv_iload hx hb (D_21 W_prog_11_method_17_code_32 24 rfl rfl) (lv_at hl 0 rfl) ?_
        refine lv_iload_n hx hb (D_29 W_prog_11_method_17_code_32 26 rfl rfl) rfl (lv_at hl 5 rfl) ?_
        obtain ⟨g13, hf⟩ := gif hf
        obtain ⟨g14, hf⟩ := gif hf
        refine zlt (tgt := 81) hx hb g13 g14 (D_161 W_prog_11_method_17_code_32 27 rfl rfl rfl) (by decide) (fun h15 => ?_) (fun h15 => ?_)
        · replace hf := gpos hf h15
          exact b_Study_bassLetter_81 X hrec10 ih hf hZ12 hS12 (lv_sub hl [0, 1, 2, 3, 6, 7, 8] rfl)
        · replace hf := gneg hf h15
          refine lv_iload hx hb (D_21 W_prog_11_method_17_code_32 30 rfl rfl) (lv_at hl 0 rfl) ?_
          refine lv_iload_n hx hb (D_29 W_prog_11_method_17_code_64 0 rfl rfl) rfl (lv_at hl 5 rfl) ?_
          refine zne (tgt := 94) hx hb g13 g14 (D_160 W_prog_11_method_17_code_64 1 rfl rfl rfl) (by decide) (fun h16 => ?_) (fun h16 => ?_)
          · replace hf := gneg hf h16
            exact b_Study_bassLetter_94 X hrec10 ih hf hZ12 hS12 (lv_sub hl [1, 2, 3, 4, 5, 6, 7, 8] rfl)
          · replace hf := gpos hf h16
            refine zaload hx hb (D_25 W_prog_11_method_17_code_64 4 rfl rfl) (lv_at hl 2 rfl) ?_
            refine zunrf g8.1 ?_
            refine zget (ci := 1) (C := RX1) (T := TX1) (v := .ref (ad 1 l6 (12 + 1))) (k := 12) hx hb hts inW_1 hown hK hZ12 g8.1 g8.2 rfl (by decide) k_2_58 rfl (D_180 W_prog_11_method_17_code_64 6 rfl rfl rfl) ?_
            refine lv_iload hx hb (D_21 W_prog_11_method_17_code_64 9 rfl rfl) (lv_at hl 1 rfl) ?_
            obtain ⟨g17, hf⟩ := gif hf
            refine zald (ci := 1) (k := 12) hx hb hK rfl hZ12 g8.1 g8.2 rfl (Nat.le_of_ble_eq_true rfl) g17.1 g17.2 (D_46 W_prog_11_method_17_code_64 11 rfl rfl) ?_
            refine lv_iload hx hb (D_21 W_prog_11_method_17_code_64 12 rfl rfl) (lv_at hl 4 rfl) ?_
            obtain ⟨g18, hf⟩ := gif hf
            obtain ⟨g19, hf⟩ := gif hf
            refine zge (tgt := 94) hx hb g18 g19 (D_162 W_prog_11_method_17_code_64 14 rfl rfl rfl) (by decide) (fun h20 => ?_) (fun h20 => ?_)
            · replace hf := gpos hf h20
              exact b_Study_bassLetter_94 X hrec10 ih hf hZ12 hS12 (lv_sub hl [1, 2, 3, 4, 5, 6, 7, 8] rfl)
            · replace hf := gneg hf h20
              exact b_Study_bassLetter_81 X hrec10 ih hf hZ12 hS12 (lv_sub hl [0, 1, 2, 3, 6, 7, 8] rfl)

def f_Study_bassLetter_10 (K : zK) : Nat → Int → Int → Int → Int → Int → Int → zF → zB → zO
  | 0, _, _, _, _, _, _, _, _ => none
  | n + 1, l5, l4, l3, l0, l1, l2, F, B => if 0 ≤ l1 ∧ l1 < K.2 6 then if r32 l5 then if r32 (F 6 l1 1) then (if (F 6 l1 1) ≤ l5 then some (zrm l4 7, F, B) else if 0 ≤ l0 ∧ l0 < K.2 9 then zbind (f_Study_eventOf K l0 l1 l5 l2 F B) (fun r6 F6 B6 => f_Study_bassLetter_32 (f_Study_bassLetter_10 K n) K K.1 0 r6 l5 l4 l3 l0 l1 l2 F6 B6) else none) else none else none else none
set_option maxHeartbeats 4000000 in
set_option maxRecDepth 100000 in
theorem b_Study_bassLetter_10 {D : va_G} {ca : Nat → ClassId} {ad : Nat → Int → Nat → Nat} {L : List Nat} {aS vS : Nat → Nat} {A : Nat → Prop} {p : Program} {l : Launch} {e : Env} {s : State} {m : MethodId} {args : Array Value} {below : List Frame} {meth : Method} {c : Code} {K : zK} {r : Int} {F9 : zF} {B9 : zB} (X : zX D ca L aS vS A p s m args meth c prog_11_method_17_code 9 (Option.some Jvm.ClassFile.FieldType.int) "StaveHouse$Study") : ∀ {n : Nat} {l5 : Int} {l4 : Int} {l3 : Int} {l0 : Int} {l1 : Int} {l2 : Int} {F : zF} {B : zB} {H : Heap} {locs : List Loc} {ls : Array Slot}, f_Study_bassLetter_10 K n l5 l4 l3 l0 l1 l2 F B = some (r, F9, B9) → zH D ca ad lnC K.2 L F B A H → va_S A s.heap H locs → lv_has ls 9 [(5, .int (iI l5)), (4, .int (iI l4)), (3, .int (iI l3)), (0, .ref (ad 9 l0 0)), (1, .ref (ad 6 l1 0)), (2, .int (iI l2))] → W p l e ({ frames := 3, cells := 0, slots := 0, locals := 63 } : Room) s m args below meth c H locs 0 0 (MQ below (Q_Study_bassLetter K D ca ad L r F9 B9 A) args s 0 0 A) (F0 m 10 ls []) := by
  obtain ⟨hx, hb, hr, hml, hown, hts, hlk, hK, hA, hL, hX⟩ := id X
  intro n
  induction n with
  | zero =>
    intros
    rename_i hf _ _ _
    cases hf
  | succ n ih =>
    intro l5 l4 l3 l0 l1 l2 F B H locs ls hf hZ hS hl
    replace hf : (if 0 ≤ l1 ∧ l1 < K.2 6 then if r32 l5 then if r32 (F 6 l1 1) then (if (F 6 l1 1) ≤ l5 then some (zrm l4 7, F, B) else if 0 ≤ l0 ∧ l0 < K.2 9 then zbind (f_Study_eventOf K l0 l1 l5 l2 F B) (fun r6 F6 B6 => f_Study_bassLetter_32 (f_Study_bassLetter_10 K n) K K.1 0 r6 l5 l4 l3 l0 l1 l2 F6 B6) else none) else none else none else none) = some (r, F9, B9) := hf
    refine lv_iload hx hb (D_21 W_prog_11_method_17_code_0 10 rfl rfl) (lv_at hl 0 rfl) ?_
    refine lv_aload_n hx hb (D_43 W_prog_11_method_17_code_0 12 rfl rfl) rfl (lv_at hl 4 rfl) ?_
    obtain ⟨g1, hf⟩ := gif hf
    refine zget (ci := 6) (C := RX6) (T := TX6) (v := .int (iI (F 6 l1 1))) (k := 1) hx hb hts inW_6 hown hK hZ g1.1 g1.2 rfl (by decide) k_2_192 rfl (D_180 W_prog_11_method_17_code_0 13 rfl rfl rfl) ?_
    obtain ⟨g2, hf⟩ := gif hf
    obtain ⟨g3, hf⟩ := gif hf
    refine zge (tgt := 106) hx hb g2 g3 (D_162 W_prog_11_method_17_code_0 16 rfl rfl rfl) (by decide) (fun h4 => ?_) (fun h4 => ?_)
    · replace hf := gpos hf h4
      refine lv_iload hx hb (D_21 W_prog_11_method_17_code_96 10 rfl rfl) (lv_at hl 1 rfl) ?_
      refine lv_bipush (v := iI 7) hx hb (D_16 W_prog_11_method_17_code_96 12 rfl rfl rfl) (by decide) ?_
      refine zrm_r hx hb (by decide) (D_112 W_prog_11_method_17_code_96 14 rfl rfl) ?_
      cases hf
      exact W.iret hx hb hr (fun t ht hW => ⟨⟨_, (), rfl, rfl, by rw [ht]; exact hZ, va_K.moved hW.alike hK⟩, hS.F ht⟩) hS.2.2 (D_172 W_prog_11_method_17_code_96 15 rfl rfl) hlk
    · replace hf := gneg hf h4
      refine lv_aload_n hx hb (D_42 W_prog_11_method_17_code_0 19 rfl rfl) rfl (lv_at hl 3 rfl) ?_
      refine lv_aload_n hx hb (D_43 W_prog_11_method_17_code_0 20 rfl rfl) rfl (lv_at hl 4 rfl) ?_
      refine lv_iload hx hb (D_21 W_prog_11_method_17_code_0 21 rfl rfl) (lv_at hl 0 rfl) ?_
      refine lv_iload_n hx hb (D_28 W_prog_11_method_17_code_0 23 rfl rfl) rfl (lv_at hl 5 rfl) ?_
      obtain ⟨g5, hf⟩ := gif hf
      obtain ⟨r6, F6, B6, hc6, hf⟩ := gbind hf
      refine va_callq (va_runV (As := [.ref (ad 6 l1 0), .int (iI l5), .int (iI l2)]) (rest := []) ⟨hx, hb, hml, hown, hts⟩ (c_Study_eventOf (l := l) hc6) (cwV 3 hts (gdV k_6_13 k_6_15 ks_69 k_1_19 k_6_16) rfl rfl rfl (by decide +kernel) ⟨Nat.le_of_ble_eq_true rfl, Nat.le_of_ble_eq_true rfl⟩) (zPV X hZ hS (ci := 9) g5.1 g5.2 (r := (RX9, TX9, 11)) rfl [.ref (ad 6 l1 0), .int (iI l5), .int (iI l2)]) rfl rfl hl.1 rfl (lv_room (Nat.le_of_ble_eq_true rfl)) (D_182 W_prog_11_method_17_code_0 24 rfl rfl rfl) ⟨Nat.le_of_ble_eq_true rfl, Nat.le_of_ble_eq_true rfl⟩) hS (fun q _ h => zAin X hS q h) (zAin X hS) (fun p6 u6 t6 H6 locs6 ht6 hv6 hw6 hB6 hz6 hk6 hS6 => ?_)
      have hZ6 := zBack X ht6 hB6
      subst hw6
      refine zastore (lv' := [(5, .int (iI l5)), (4, .int (iI l4)), (3, .int (iI l3)), (0, .ref (ad 9 l0 0)), (1, .ref (ad 6 l1 0)), (2, .int (iI l2))]) hx hb (D_58 W_prog_11_method_17_code_0 27 rfl rfl) hl (by decide) (fun _ _ => rfl) (fun ls hl => ?_)
      refine lv_iconst (v := iI 0) hx hb (D_3 W_prog_11_method_17_code_0 29 rfl rfl) rfl ?_
      refine lv_istore (lv' := [(7, .int (iI 0)), (6, va_rf (zrf ad 1 r6)), (5, .int (iI l5)), (4, .int (iI l4)), (3, .int (iI l3)), (0, .ref (ad 9 l0 0)), (1, .ref (ad 6 l1 0)), (2, .int (iI l2))]) hx hb (D_54 W_prog_11_method_17_code_0 30 rfl rfl) hl (by decide) (by cases zrf ad 1 r6 <;> rfl) (fun ls hl => ?_)
      exact b_Study_bassLetter_32 X ih hf hZ6 hS6 (lv_sub hl [0, 1, 2, 3, 4, 5, 6, 7] rfl)

def f_Study_bassLetter (K : zK) (l0 : Int) (l1 : Int) (l2 : Int) (F : zF) (B : zB) : zO := f_Study_bassLetter_10 K K.1 0 0 1000 l0 l1 l2 F B
set_option maxHeartbeats 4000000 in
set_option maxRecDepth 100000 in
theorem c_Study_bassLetter {l : Launch} {D : va_G} {ca : Nat → ClassId} {ad : Nat → Int → Nat → Nat} {L : List Nat} {aS vS : Nat → Nat} {sz : Nat} {K : zK}  {l0 : Int} {l1 : Int} {l2 : Int} {F F9 : zF} {B B9 : zB} {r : Int} (hf : f_Study_bassLetter K l0 l1 l2 F B = some (r, F9, B9)) : Met l ({ cls := "StaveHouse$Study", name := "bassLetter", desc := "(LStaveHouse$Piece;I)I" } : Jvm.MethodName) (Cond.code ({ cls := "StaveHouse$Study", name := "bassLetter", desc := "(LStaveHouse$Piece;I)I" } : Jvm.MethodName) prog_11_method_17_code 9 (Option.some Jvm.ClassFile.FieldType.int) :: wAll) ({ frames := 3, cells := 0, slots := 0, locals := 63 } : Room) (va_Pc [.ref (ad 9 l0 0), .ref (ad 6 l1 0), .int (iI l2)] (zPre D ca ad lnC K.2 L aS vS F B sz)) (Q_Study_bassLetter K D ca ad L r F9 B9 (zA L sz)) 0 0 (zA L sz) := by
  refine zMet (Qc := Q_Study_bassLetter K D ca ad L r F9 B9) (lv := [(0, .ref (ad 9 l0 0)), (1, .ref (ad 6 l1 0)), (2, .int (iI l2))]) (by decide) (Nat.le_of_ble_eq_true rfl) rfl (fun A p e s m below meth c ls X hZ hS hl => ?_)
  obtain ⟨hx, hb, hr, hml, hown, hts, hlk, hK, hA, hL, hX⟩ := id X
  replace hf : (f_Study_bassLetter_10 K K.1 0 0 1000 l0 l1 l2 F B) = some (r, F9, B9) := hf
  refine lv_sipush (v := iI 1000) hx hb (D_17 W_prog_11_method_17_code_0 0 rfl rfl rfl) (by decide) ?_
  refine lv_istore_n (lv' := [(3, .int (iI 1000)), (0, .ref (ad 9 l0 0)), (1, .ref (ad 6 l1 0)), (2, .int (iI l2))]) hx hb (D_62 W_prog_11_method_17_code_0 3 rfl rfl) rfl hl (by decide) rfl (fun ls hl => ?_)
  refine lv_iconst (v := iI 0) hx hb (D_3 W_prog_11_method_17_code_0 4 rfl rfl) rfl ?_
  refine lv_istore (lv' := [(4, .int (iI 0)), (3, .int (iI 1000)), (0, .ref (ad 9 l0 0)), (1, .ref (ad 6 l1 0)), (2, .int (iI l2))]) hx hb (D_54 W_prog_11_method_17_code_0 5 rfl rfl) hl (by decide) rfl (fun ls hl => ?_)
  refine lv_iconst (v := iI 0) hx hb (D_3 W_prog_11_method_17_code_0 7 rfl rfl) rfl ?_
  refine lv_istore (lv' := [(5, .int (iI 0)), (4, .int (iI 0)), (3, .int (iI 1000)), (0, .ref (ad 9 l0 0)), (1, .ref (ad 6 l1 0)), (2, .int (iI l2))]) hx hb (D_54 W_prog_11_method_17_code_0 8 rfl rfl) hl (by decide) rfl (fun ls hl => ?_)
  exact b_Study_bassLetter_10 X hf hZ hS (lv_sub hl [0, 1, 2, 3, 4, 5] rfl)

abbrev Q_CString_indexOf_1 (K : zK) (D : va_G) (ca : Nat → ClassId) (ad : Nat → Int → Nat → Nat) (L : List Nat) (r : Int) (F : zF) (B : zB) (A : Nat → Prop) : Array Value → State → Outcome → State → Prop := va_Qi (S := Unit) (fun p _ => p = iI r) (fun _ => zPo D ca ad lnC K.2 L F B A) A
def f_CString_indexOf_1_36 (K : zK) (s0 : Int) (F : zF) (B : zB) : zO := some (s0, F, B)
set_option maxHeartbeats 4000000 in
set_option maxRecDepth 100000 in
theorem b_CString_indexOf_1_36 {D : va_G} {ca : Nat → ClassId} {ad : Nat → Int → Nat → Nat} {L : List Nat} {aS vS : Nat → Nat} {A : Nat → Prop} {p : Program} {l : Launch} {e : Env} {s : State} {m : MethodId} {args : Array Value} {below : List Frame} {meth : Method} {c : Code} {K : zK} {r : Int} {F9 : zF} {B9 : zB} (X : zX D ca L aS vS A p s m args meth c prog_21_method_80_code 3 (Option.some Jvm.ClassFile.FieldType.int) "java/lang/String") {s0 : Int} {F : zF} {B : zB} {H : Heap} {locs : List Loc} {ls : Array Slot} (hf : f_CString_indexOf_1_36 K s0 F B = some (r, F9, B9)) (hZ : zH D ca ad lnC K.2 L F B A H) (hS : va_S A s.heap H locs) (hl : lv_has ls 3 []) : W p l e ({ frames := 2, cells := 0, slots := 0, locals := 48 } : Room) s m args below meth c H locs 0 0 (MQ below (Q_CString_indexOf_1 K D ca ad L r F9 B9 A) args s 0 0 A) (F0 m 36 ls [.int (iI s0)]) := by
  obtain ⟨hx, hb, hr, hml, hown, hts, hlk, hK, hA, hL, hX⟩ := id X
  replace hf : (some (s0, F, B)) = some (r, F9, B9) := hf
  cases hf
  exact W.iret hx hb hr (fun t ht hW => ⟨⟨_, (), rfl, rfl, by rw [ht]; exact hZ, va_K.moved hW.alike hK⟩, hS.F ht⟩) hS.2.2 (D_172 W_prog_21_method_80_code_32 4 rfl rfl) hlk

def f_CString_indexOf_1 (K : zK) (l0 : Nat) (l1 : Int) (l2 : Int) (F : zF) (B : zB) : zO := if l0 < strL.length then zbind (f_CString_isLatin1 K l0 F B) (fun r2 F2 B2 => if r32 r2 then (if r2 = 0 then zbind (f_CString_length K l0 F2 B2) (fun r5 F5 B5 => none) else zbind (f_CString_length K l0 F2 B2) (fun r6 F6 B6 => zbind (f_CStringLatin1_indexOf K l0 l1 l2 r6 F6 B6) (fun r7 F7 B7 => f_CString_indexOf_1_36 K r7 F7 B7))) else none) else none
set_option maxHeartbeats 4000000 in
set_option maxRecDepth 100000 in
theorem c_CString_indexOf_1 {l : Launch} {D : va_G} {ca : Nat → ClassId} {ad : Nat → Int → Nat → Nat} {L : List Nat} {aS vS : Nat → Nat} {sz : Nat} {K : zK}  {l0 : Nat} {l1 : Int} {l2 : Int} {F F9 : zF} {B B9 : zB} {r : Int} (hf : f_CString_indexOf_1 K l0 l1 l2 F B = some (r, F9, B9)) : Met l ({ cls := "java/lang/String", name := "indexOf", desc := "(II)I" } : Jvm.MethodName) (Cond.code ({ cls := "java/lang/String", name := "indexOf", desc := "(II)I" } : Jvm.MethodName) prog_21_method_80_code 3 (Option.some Jvm.ClassFile.FieldType.int) :: wAll) ({ frames := 2, cells := 0, slots := 0, locals := 48 } : Room) (va_Pc [.ref (aS l0), .int (iI l1), .int (iI l2)] (zPre D ca ad lnC K.2 L aS vS F B sz)) (Q_CString_indexOf_1 K D ca ad L r F9 B9 (zA L sz)) 0 0 (zA L sz) := by
  refine zMet (Qc := Q_CString_indexOf_1 K D ca ad L r F9 B9) (lv := [(0, .ref (aS l0)), (1, .int (iI l1)), (2, .int (iI l2))]) (by decide) (Nat.le_of_ble_eq_true rfl) rfl (fun A p e s m below meth c ls X hZ hS hl => ?_)
  obtain ⟨hx, hb, hr, hml, hown, hts, hlk, hK, hA, hL, hX⟩ := id X
  replace hf : (if l0 < strL.length then zbind (f_CString_isLatin1 K l0 F B) (fun r2 F2 B2 => if r32 r2 then (if r2 = 0 then zbind (f_CString_length K l0 F2 B2) (fun r5 F5 B5 => none) else zbind (f_CString_length K l0 F2 B2) (fun r6 F6 B6 => zbind (f_CStringLatin1_indexOf K l0 l1 l2 r6 F6 B6) (fun r7 F7 B7 => f_CString_indexOf_1_36 K r7 F7 B7))) else none) else none) = some (r, F9, B9) := hf
  refine lv_aload_n hx hb (D_42 W_prog_21_method_80_code_0 0 rfl rfl) rfl (lv_at hl 0 rfl) ?_
  obtain ⟨g1, hf⟩ := gif hf
  obtain ⟨r2, F2, B2, hc2, hf⟩ := gbind hf
  refine va_calli (va_runV (As := []) (rest := []) ⟨hx, hb, hml, hown, hts⟩ (c_CString_isLatin1 (l := l) hc2) (cwV 0 hts (gdV k_3_75 k_3_76 k_3_77 k_1_11 k_3_78) rfl rfl rfl (by decide +kernel) ⟨Nat.le_of_ble_eq_true rfl, Nat.le_of_ble_eq_true rfl⟩) ⟨zBlind, zsrecv hX g1 hS, zAt X hZ hS [.ref (aS l0)]⟩ rfl rfl hl.1 rfl (lv_room (Nat.le_of_ble_eq_true rfl)) (D_182 W_prog_21_method_80_code_0 1 rfl rfl rfl) ⟨Nat.le_of_ble_eq_true rfl, Nat.le_of_ble_eq_true rfl⟩) hS (fun q _ h => zAin X hS q h) (zAin X hS) (fun p2 u2 t2 H2 locs2 ht2 hv2 hw2 hB2 hz2 hk2 hS2 => ?_)
  have hZ2 := zBack X ht2 hB2
  subst hw2
  obtain ⟨g3, hf⟩ := gif hf
  refine z0eq (tgt := 23) hx hb g3 (D_153 W_prog_21_method_80_code_0 4 rfl rfl rfl) (by decide) (fun h4 => ?_) (fun h4 => ?_)
  · replace hf := gpos hf h4
    refine lv_aload_n hx hb (D_42 W_prog_21_method_80_code_0 23 rfl rfl) rfl (lv_at hl 0 rfl) ?_
    refine vk_getf hx hb (zstr hX g1).2.1 hS2 hown (hts _ k_15_170) (fun _ h => h) (D_180 W_prog_21_method_80_code_0 24 rfl rfl rfl) ?_
    refine W.eq (g2 := F0 m 27 ls [.ref (vS l0)]) rfl ?_
    refine lv_iload_n hx hb (D_27 W_prog_21_method_80_code_0 27 rfl rfl) rfl (lv_at hl 1 rfl) ?_
    refine lv_iload_n hx hb (D_28 W_prog_21_method_80_code_0 28 rfl rfl) rfl (lv_at hl 2 rfl) ?_
    refine lv_aload_n hx hb (D_42 W_prog_21_method_80_code_0 29 rfl rfl) rfl (lv_at hl 0 rfl) ?_
    obtain ⟨r5, F5, B5, hc5, hf⟩ := gbind hf
    refine va_calli (va_runV (As := []) (rest := [.int (iI l2), .int (iI l1), .ref (vS l0)]) ⟨hx, hb, hml, hown, hts⟩ (c_CString_length (l := l) hc5) (cwV 0 hts (gdV k_3_81 k_3_82 k_3_83 k_1_11 k_3_84) rfl rfl rfl (by decide +kernel) ⟨Nat.le_of_ble_eq_true rfl, Nat.le_of_ble_eq_true rfl⟩) ⟨zBlind, zsrecv hX g1 hS2, zAt X hZ2 hS2 [.ref (aS l0)]⟩ rfl rfl hl.1 rfl (lv_room (Nat.le_of_ble_eq_true rfl)) (D_182 W_prog_21_method_80_code_0 30 rfl rfl rfl) ⟨Nat.le_of_ble_eq_true rfl, Nat.le_of_ble_eq_true rfl⟩) hS2 (fun q _ h => zAin X hS2 q h) (zAin X hS2) (fun p5 u5 t5 H5 locs5 ht5 hv5 hw5 hB5 hz5 hk5 hS5 => ?_)
    have hZ5 := zBack X ht5 hB5
    subst hw5
    cases hf
  · replace hf := gneg hf h4
    refine lv_aload_n hx hb (D_42 W_prog_21_method_80_code_0 7 rfl rfl) rfl (lv_at hl 0 rfl) ?_
    refine vk_getf hx hb (zstr hX g1).2.1 hS2 hown (hts _ k_15_170) (fun _ h => h) (D_180 W_prog_21_method_80_code_0 8 rfl rfl rfl) ?_
    refine W.eq (g2 := F0 m 11 ls [.ref (vS l0)]) rfl ?_
    refine lv_iload_n hx hb (D_27 W_prog_21_method_80_code_0 11 rfl rfl) rfl (lv_at hl 1 rfl) ?_
    refine lv_iload_n hx hb (D_28 W_prog_21_method_80_code_0 12 rfl rfl) rfl (lv_at hl 2 rfl) ?_
    refine lv_aload_n hx hb (D_42 W_prog_21_method_80_code_0 13 rfl rfl) rfl (lv_at hl 0 rfl) ?_
    obtain ⟨r6, F6, B6, hc6, hf⟩ := gbind hf
    refine va_calli (va_runV (As := []) (rest := [.int (iI l2), .int (iI l1), .ref (vS l0)]) ⟨hx, hb, hml, hown, hts⟩ (c_CString_length (l := l) hc6) (cwV 0 hts (gdV k_3_81 k_3_82 k_3_83 k_1_11 k_3_84) rfl rfl rfl (by decide +kernel) ⟨Nat.le_of_ble_eq_true rfl, Nat.le_of_ble_eq_true rfl⟩) ⟨zBlind, zsrecv hX g1 hS2, zAt X hZ2 hS2 [.ref (aS l0)]⟩ rfl rfl hl.1 rfl (lv_room (Nat.le_of_ble_eq_true rfl)) (D_182 W_prog_21_method_80_code_0 14 rfl rfl rfl) ⟨Nat.le_of_ble_eq_true rfl, Nat.le_of_ble_eq_true rfl⟩) hS2 (fun q _ h => zAin X hS2 q h) (zAin X hS2) (fun p6 u6 t6 H6 locs6 ht6 hv6 hw6 hB6 hz6 hk6 hS6 => ?_)
    have hZ6 := zBack X ht6 hB6
    subst hw6
    obtain ⟨r7, F7, B7, hc7, hf⟩ := gbind hf
    refine va_calli (va_runS (As := [.ref (vS l0), .int (iI l1), .int (iI l2), .int (iI r6)]) (rest := []) ⟨hx, hb, hml, hown, hts⟩ (c_CStringLatin1_indexOf (l := l) hc7) (va_cwS 4 hts (gdS k_3_89 k_3_90 k_1_12 k_3_91) rfl rfl rfl (by decide +kernel) ⟨Nat.le_of_ble_eq_true rfl, Nat.le_of_ble_eq_true rfl⟩) (zPS X hZ6 hS6 [.ref (vS l0), .int (iI l1), .int (iI l2), .int (iI r6)]) rfl rfl hl.1 rfl (lv_room (Nat.le_of_ble_eq_true rfl)) (D_184 W_prog_21_method_80_code_0 17 rfl rfl rfl) ⟨Nat.le_of_ble_eq_true rfl, Nat.le_of_ble_eq_true rfl⟩) hS6 (fun q _ h => zAin X hS6 q h) (zAin X hS6) (fun p7 u7 t7 H7 locs7 ht7 hv7 hw7 hB7 hz7 hk7 hS7 => ?_)
    have hZ7 := zBack X ht7 hB7
    subst hw7
    refine lv_goto (tgt := 36) hx hb (D_167 W_prog_21_method_80_code_0 20 rfl rfl rfl) (by decide) ?_
    exact b_CString_indexOf_1_36 X hf hZ7 hS7 (lv_sub hl [] rfl)

abbrev Q_Parser_takeLength (K : zK) (D : va_G) (ca : Nat → ClassId) (ad : Nat → Int → Nat → Nat) (L : List Nat) (r : Int) (F : zF) (B : zB) (A : Nat → Prop) : Array Value → State → Outcome → State → Prop := va_Qi (S := Unit) (fun p _ => p = iI r) (fun _ => zPo D ca ad lnC K.2 L F B A) A
def f_Parser_takeLength_70 (K : zK) (l2 : Int) (l1 : Int) (l0 : Int) (F : zF) (B : zB) : zO := if 0 ≤ l2 ∧ l2 < ztl 4 then if 0 ≤ l0 ∧ l0 < K.2 3 then some (1, (zup3 F 3 l0 20 (zdv (l1 * (ztv 4 l2)) 4)), B) else none else none
set_option maxHeartbeats 4000000 in
set_option maxRecDepth 100000 in
theorem b_Parser_takeLength_70 {D : va_G} {ca : Nat → ClassId} {ad : Nat → Int → Nat → Nat} {L : List Nat} {aS vS : Nat → Nat} {A : Nat → Prop} {p : Program} {l : Launch} {e : Env} {s : State} {m : MethodId} {args : Array Value} {below : List Frame} {meth : Method} {c : Code} {K : zK} {r : Int} {F9 : zF} {B9 : zB} (X : zX D ca L aS vS A p s m args meth c prog_5_method_26_code 4 (Option.some Jvm.ClassFile.FieldType.boolean) "StaveHouse$Parser") {l2 : Int} {l1 : Int} {l0 : Int} {F : zF} {B : zB} {H : Heap} {locs : List Loc} {ls : Array Slot} (hf : f_Parser_takeLength_70 K l2 l1 l0 F B = some (r, F9, B9)) (hZ : zH D ca ad lnC K.2 L F B A H) (hS : va_S A s.heap H locs) (hl : lv_has ls 4 [(2, .int (iI l2)), (1, .int (iI l1)), (0, .ref (ad 3 l0 0))]) : W p l e ({ frames := 2, cells := 0, slots := 0, locals := 45 } : Room) s m args below meth c H locs 0 0 (MQ below (Q_Parser_takeLength K D ca ad L r F9 B9 A) args s 0 0 A) (F0 m 70 ls []) := by
  obtain ⟨hx, hb, hr, hml, hown, hts, hlk, hK, hA, hL, hX⟩ := id X
  replace hf : (if 0 ≤ l2 ∧ l2 < ztl 4 then if 0 ≤ l0 ∧ l0 < K.2 3 then some (1, (zup3 F 3 l0 20 (zdv (l1 * (ztv 4 l2)) 4)), B) else none else none) = some (r, F9, B9) := hf
  refine lv_aload_n hx hb (D_42 W_prog_5_method_26_code_64 6 rfl rfl) rfl (lv_at hl 2 rfl) ?_
  refine lv_iload_n hx hb (D_27 W_prog_5_method_26_code_64 7 rfl rfl) rfl (lv_at hl 1 rfl) ?_
  have hnw := hX.2.2.2.2.2.1.2 _ (List.mem_of_getElem? (i := 0) rfl)
  refine va_getsN hx hb (hX.2.2.2.2.2.2 4 _ rfl).1 hS hown (va_Nw.use rfl hnw) (fun _ h => h) (D_178 W_prog_5_method_26_code_64 8 rfl rfl rfl) ?_
  refine W.eq (g2 := F0 m 75 ls [.ref (vS (1000 + 4)), .int (iI l1), .ref (ad 3 l0 0)]) rfl ?_
  refine lv_iload_n hx hb (D_28 W_prog_5_method_26_code_64 11 rfl rfl) rfl (lv_at hl 0 rfl) ?_
  obtain ⟨g18, hf⟩ := gif hf
  refine va_ti (v := .int (iI (ztv 4 l2))) hx hb (ztI hX (by decide) (by decide)) hS (zt_in (by decide) g18) (ztI_v (by decide) g18) (D_46 W_prog_5_method_26_code_64 12 rfl rfl) ?_
  refine zmul hx hb (D_104 W_prog_5_method_26_code_64 13 rfl rfl) ?_
  refine lv_iconst (v := iI 4) hx hb (D_7 W_prog_5_method_26_code_64 14 rfl rfl) rfl ?_
  refine zdv_r hx hb (by decide) (D_108 W_prog_5_method_26_code_64 15 rfl rfl) ?_
  obtain ⟨g19, hf⟩ := gif hf
  refine zput (ci := 3) (C := RX3) (T := TX3) (k := 20) (v := (zdv (l1 * (ztv 4 l2)) 4)) (w := .int (iI (zdv (l1 * (ztv 4 l2)) 4))) hx hb hts inW_3 tyX3 tyX3_ok nmX3 hown hK hZ hS g19.1 g19.2 rfl (by decide) k_1_137 rfl (fun G h => congrArg (fun q => Value.int (iI q)) h) rfl rfl (zno (by decide)) (D_181 W_prog_5_method_26_code_64 16 rfl rfl rfl) (fun H20 locs20 hZ20 hS20 => ?_)
  refine lv_iconst (v := iI 1) hx hb (D_4 W_prog_5_method_26_code_64 19 rfl rfl) rfl ?_
  cases hf
  exact W.zret hx hb hr rfl (fun t ht hW => ⟨⟨_, (), rfl, rfl, by rw [ht]; exact hZ20, va_K.moved hW.alike hK⟩, hS20.F ht⟩) hS20.2.2 (D_172 W_prog_5_method_26_code_64 20 rfl rfl) hlk

def f_Parser_takeLength_37 (K : zK) : Nat → Int → Int → Int → Int → zF → zB → zO
  | 0, _, _, _, _, _, _ => none
  | n + 1, l3, l2, l1, l0, F, B => if r32 l3 then (if 2 ≤ l3 then f_Parser_takeLength_70 K l2 l1 l0 F B else if 0 ≤ l0 ∧ l0 < K.2 3 then if 0 ≤ (F 3 l0 11) ∧ (F 3 l0 11) < K.2 10 then zbind (f_Tokens_isSign K (F 3 l0 11) 46 F B) (fun r13 F13 B13 => if r32 r13 then (if r13 = 0 then f_Parser_takeLength_70 K l2 l1 l0 F13 B13 else if 0 ≤ (F13 3 l0 11) ∧ (F13 3 l0 11) < K.2 10 then zbind (f_Tokens_advance K (F13 3 l0 11) F13 B13) (fun r17 F17 B17 => f_Parser_takeLength_37 K n (l3 + 1) (l2 + 1) l1 l0 F17 B17) else none) else none) else none else none) else none
set_option maxHeartbeats 4000000 in
set_option maxRecDepth 100000 in
theorem b_Parser_takeLength_37 {D : va_G} {ca : Nat → ClassId} {ad : Nat → Int → Nat → Nat} {L : List Nat} {aS vS : Nat → Nat} {A : Nat → Prop} {p : Program} {l : Launch} {e : Env} {s : State} {m : MethodId} {args : Array Value} {below : List Frame} {meth : Method} {c : Code} {K : zK} {r : Int} {F9 : zF} {B9 : zB} (X : zX D ca L aS vS A p s m args meth c prog_5_method_26_code 4 (Option.some Jvm.ClassFile.FieldType.boolean) "StaveHouse$Parser") : ∀ {n : Nat} {l3 : Int} {l2 : Int} {l1 : Int} {l0 : Int} {F : zF} {B : zB} {H : Heap} {locs : List Loc} {ls : Array Slot}, f_Parser_takeLength_37 K n l3 l2 l1 l0 F B = some (r, F9, B9) → zH D ca ad lnC K.2 L F B A H → va_S A s.heap H locs → lv_has ls 4 [(3, .int (iI l3)), (2, .int (iI l2)), (1, .int (iI l1)), (0, .ref (ad 3 l0 0))] → W p l e ({ frames := 2, cells := 0, slots := 0, locals := 45 } : Room) s m args below meth c H locs 0 0 (MQ below (Q_Parser_takeLength K D ca ad L r F9 B9 A) args s 0 0 A) (F0 m 37 ls []) := by
  obtain ⟨hx, hb, hr, hml, hown, hts, hlk, hK, hA, hL, hX⟩ := id X
  intro n
  induction n with
  | zero =>
    intros
    rename_i hf _ _ _
    cases hf
  | succ n ih =>
    intro l3 l2 l1 l0 F B H locs ls hf hZ hS hl
    replace hf : (if r32 l3 then (if 2 ≤ l3 then f_Parser_takeLength_70 K l2 l1 l0 F B else if 0 ≤ l0 ∧ l0 < K.2 3 then if 0 ≤ (F 3 l0 11) ∧ (F 3 l0 11) < K.2 10 then zbind (f_Tokens_isSign K (F 3 l0 11) 46 F B) (fun r13 F13 B13 => if r32 r13 then (if r13 = 0 then f_Parser_takeLength_70 K l2 l1 l0 F13 B13 else if 0 ≤ (F13 3 l0 11) ∧ (F13 3 l0 11) < K.2 10 then zbind (f_Tokens_advance K (F13 3 l0 11) F13 B13) (fun r17 F17 B17 => f_Parser_takeLength_37 K n (l3 + 1) (l2 + 1) l1 l0 F17 B17) else none) else none) else none else none) else none) = some (r, F9, B9) := hf
    refine lv_iload_n hx hb (D_29 W_prog_5_method_26_code_32 5 rfl rfl) rfl (lv_at hl 0 rfl) ?_
    refine lv_iconst (v := iI 2) hx hb (D_5 W_prog_5_method_26_code_32 6 rfl rfl) rfl ?_
    obtain ⟨g9, hf⟩ := gif hf
    refine zge (tgt := 70) hx hb g9 (by decide) (D_162 W_prog_5_method_26_code_32 7 rfl rfl rfl) (by decide) (fun h10 => ?_) (fun h10 => ?_)
    · replace hf := gpos hf h10
      exact b_Parser_takeLength_70 X hf hZ hS (lv_sub hl [1, 2, 3] rfl)
    · replace hf := gneg hf h10
      refine lv_aload_n hx hb (D_42 W_prog_5_method_26_code_32 10 rfl rfl) rfl (lv_at hl 3 rfl) ?_
      obtain ⟨g11, hf⟩ := gif hf
      refine zget (ci := 3) (C := RX3) (T := TX3) (v := va_rf (zrf ad 10 (F 3 l0 11))) (k := 11) hx hb hts inW_3 hown hK hZ g11.1 g11.2 rfl (by decide) k_1_128 rfl (D_180 W_prog_5_method_26_code_32 11 rfl rfl rfl) ?_
      refine lv_bipush (v := iI 46) hx hb (D_16 W_prog_5_method_26_code_32 14 rfl rfl rfl) (by decide) ?_
      obtain ⟨g12, hf⟩ := gif hf
      refine W.eq (g2 := F0 m 48 ls [.int (iI 46), .ref (ad 10 (F 3 l0 11) 0)]) (by rw [zrf_pos (ad := ad) (t := 10) g12.1]; try rfl) ?_
      obtain ⟨r13, F13, B13, hc13, hf⟩ := gbind hf
      refine va_calli (va_runV (As := [.int (iI 46)]) (rest := []) ⟨hx, hb, hml, hown, hts⟩ (c_Tokens_isSign (l := l) hc13) (cwV 1 hts (gdV k_3_208 k_3_209 k_3_210 k_1_5 k_3_211) rfl rfl rfl (by decide +kernel) ⟨Nat.le_of_ble_eq_true rfl, Nat.le_of_ble_eq_true rfl⟩) (zPV X hZ hS (ci := 10) g12.1 g12.2 (r := (RX10, TX10, 9)) rfl [.int (iI 46)]) rfl rfl hl.1 rfl (lv_room (Nat.le_of_ble_eq_true rfl)) (D_182 W_prog_5_method_26_code_32 16 rfl rfl rfl) ⟨Nat.le_of_ble_eq_true rfl, Nat.le_of_ble_eq_true rfl⟩) hS (fun q _ h => zAin X hS q h) (zAin X hS) (fun p13 u13 t13 H13 locs13 ht13 hv13 hw13 hB13 hz13 hk13 hS13 => ?_)
      have hZ13 := zBack X ht13 hB13
      subst hw13
      obtain ⟨g14, hf⟩ := gif hf
      refine z0eq (tgt := 70) hx hb g14 (D_153 W_prog_5_method_26_code_32 19 rfl rfl rfl) (by decide) (fun h15 => ?_) (fun h15 => ?_)
      · replace hf := gpos hf h15
        exact b_Parser_takeLength_70 X hf hZ13 hS13 (lv_sub hl [1, 2, 3] rfl)
      · replace hf := gneg hf h15
        refine lv_iinc (v := iI (l2 + 1)) (lv' := [(2, .int (iI (l2 + 1))), (3, .int (iI l3)), (1, .int (iI l1)), (0, .ref (ad 3 l0 0))]) hx hb d_5_26_54 hl (k := 1) rfl (iI_add _ 1) (by decide) rfl (fun ls hl => ?_)
        refine lv_aload_n hx hb (D_42 W_prog_5_method_26_code_32 25 rfl rfl) rfl (lv_at hl 3 rfl) ?_
        refine zget (ci := 3) (C := RX3) (T := TX3) (v := va_rf (zrf ad 10 (F13 3 l0 11))) (k := 11) hx hb hts inW_3 hown hK hZ13 g11.1 g11.2 rfl (by decide) k_1_128 rfl (D_180 W_prog_5_method_26_code_32 26 rfl rfl rfl) ?_
        obtain ⟨g16, hf⟩ := gif hf
        refine W.eq (g2 := F0 m 61 ls [.ref (ad 10 (F13 3 l0 11) 0)]) (by rw [zrf_pos (ad := ad) (t := 10) g16.1]; try rfl) ?_
        obtain ⟨r17, F17, B17, hc17, hf⟩ := gbind hf
        refine va_callv (va_runV (As := []) (rest := []) ⟨hx, hb, hml, hown, hts⟩ (c_Tokens_advance (l := l) hc17) (cwV 0 hts (gdV k_3_180 k_3_152 k_3_153 k_1_5 k_3_154) rfl rfl rfl (by decide +kernel) ⟨Nat.le_of_ble_eq_true rfl, Nat.le_of_ble_eq_true rfl⟩) (zPV X hZ13 hS13 (ci := 10) g16.1 g16.2 (r := (RX10, TX10, 9)) rfl []) rfl rfl hl.1 rfl (lv_room (Nat.le_of_ble_eq_true rfl)) (D_182 W_prog_5_method_26_code_32 29 rfl rfl rfl) ⟨Nat.le_of_ble_eq_true rfl, Nat.le_of_ble_eq_true rfl⟩) hS13 (fun q _ h => zAin X hS13 q h) (zAin X hS13) (fun u17 t17 H17 locs17 ht17 hv17 hw17 hB17 hz17 hk17 hS17 => ?_)
        have hZ17 := zBack X ht17 hB17
        refine lv_iinc (v := iI (l3 + 1)) (lv' := [(3, .int (iI (l3 + 1))), (2, .int (iI (l2 + 1))), (1, .int (iI l1)), (0, .ref (ad 3 l0 0))]) hx hb d_5_26_64 hl (k := 1) rfl (iI_add _ 1) (by decide) rfl (fun ls hl => ?_)
        refine lv_goto (tgt := 37) hx hb (D_167 W_prog_5_method_26_code_64 3 rfl rfl rfl) (by decide) ?_
        exact ih hf hZ17 hS17 (lv_sub hl [0, 1, 2, 3] rfl)

def f_Parser_takeLength (K : zK) (l0 : Int) (F : zF) (B : zB) : zO := if 0 ≤ l0 ∧ l0 < K.2 3 then if 0 ≤ (F 3 l0 11) ∧ (F 3 l0 11) < K.2 10 then zbind (f_Tokens_advance K (F 3 l0 11) F B) (fun r3 F3 B3 => zbind (f_Parser_takeNumber K l0 1 32 1 F3 B3) (fun r4 F4 B4 => if r32 r4 then (if r4 = 0 then some (0, F4, B4) else if r32 (F4 3 l0 19) then if ¬ iI (zmax (F4 3 l0 19) 1) = 0 then f_Parser_takeLength_37 K K.1 0 0 (zdv 128 (zmax (F4 3 l0 19) 1)) l0 F4 B4 else none else none) else none)) else none else none
set_option maxHeartbeats 4000000 in
set_option maxRecDepth 100000 in
theorem c_Parser_takeLength {l : Launch} {D : va_G} {ca : Nat → ClassId} {ad : Nat → Int → Nat → Nat} {L : List Nat} {aS vS : Nat → Nat} {sz : Nat} {K : zK}  {l0 : Int} {F F9 : zF} {B B9 : zB} {r : Int} (hf : f_Parser_takeLength K l0 F B = some (r, F9, B9)) : Met l ({ cls := "StaveHouse$Parser", name := "takeLength", desc := "()Z" } : Jvm.MethodName) (Cond.code ({ cls := "StaveHouse$Parser", name := "takeLength", desc := "()Z" } : Jvm.MethodName) prog_5_method_26_code 4 (Option.some Jvm.ClassFile.FieldType.boolean) :: wAll) ({ frames := 2, cells := 0, slots := 0, locals := 45 } : Room) (va_Pc [.ref (ad 3 l0 0)] (zPre D ca ad lnC K.2 L aS vS F B sz)) (Q_Parser_takeLength K D ca ad L r F9 B9 (zA L sz)) 0 0 (zA L sz) := by
  refine zMet (Qc := Q_Parser_takeLength K D ca ad L r F9 B9) (lv := [(0, .ref (ad 3 l0 0))]) (by decide) (Nat.le_of_ble_eq_true rfl) rfl (fun A p e s m below meth c ls X hZ hS hl => ?_)
  obtain ⟨hx, hb, hr, hml, hown, hts, hlk, hK, hA, hL, hX⟩ := id X
  replace hf : (if 0 ≤ l0 ∧ l0 < K.2 3 then if 0 ≤ (F 3 l0 11) ∧ (F 3 l0 11) < K.2 10 then zbind (f_Tokens_advance K (F 3 l0 11) F B) (fun r3 F3 B3 => zbind (f_Parser_takeNumber K l0 1 32 1 F3 B3) (fun r4 F4 B4 => if r32 r4 then (if r4 = 0 then some (0, F4, B4) else if r32 (F4 3 l0 19) then if ¬ iI (zmax (F4 3 l0 19) 1) = 0 then f_Parser_takeLength_37 K K.1 0 0 (zdv 128 (zmax (F4 3 l0 19) 1)) l0 F4 B4 else none else none) else none)) else none else none) = some (r, F9, B9) := hf
  refine lv_aload_n hx hb (D_42 W_prog_5_method_26_code_0 0 rfl rfl) rfl (lv_at hl 0 rfl) ?_
  obtain ⟨g1, hf⟩ := gif hf
  refine zget (ci := 3) (C := RX3) (T := TX3) (v := va_rf (zrf ad 10 (F 3 l0 11))) (k := 11) hx hb hts inW_3 hown hK hZ g1.1 g1.2 rfl (by decide) k_1_128 rfl (D_180 W_prog_5_method_26_code_0 1 rfl rfl rfl) ?_
  obtain ⟨g2, hf⟩ := gif hf
  refine W.eq (g2 := F0 m 4 ls [.ref (ad 10 (F 3 l0 11) 0)]) (by rw [zrf_pos (ad := ad) (t := 10) g2.1]; try rfl) ?_
  obtain ⟨r3, F3, B3, hc3, hf⟩ := gbind hf
  refine va_callv (va_runV (As := []) (rest := []) ⟨hx, hb, hml, hown, hts⟩ (c_Tokens_advance (l := l) hc3) (cwV 0 hts (gdV k_3_180 k_3_152 k_3_153 k_1_5 k_3_154) rfl rfl rfl (by decide +kernel) ⟨Nat.le_of_ble_eq_true rfl, Nat.le_of_ble_eq_true rfl⟩) (zPV X hZ hS (ci := 10) g2.1 g2.2 (r := (RX10, TX10, 9)) rfl []) rfl rfl hl.1 rfl (lv_room (Nat.le_of_ble_eq_true rfl)) (D_182 W_prog_5_method_26_code_0 4 rfl rfl rfl) ⟨Nat.le_of_ble_eq_true rfl, Nat.le_of_ble_eq_true rfl⟩) hS (fun q _ h => zAin X hS q h) (zAin X hS) (fun u3 t3 H3 locs3 ht3 hv3 hw3 hB3 hz3 hk3 hS3 => ?_)
  have hZ3 := zBack X ht3 hB3
  refine lv_aload_n hx hb (D_42 W_prog_5_method_26_code_0 7 rfl rfl) rfl (lv_at hl 0 rfl) ?_
  refine lv_iconst (v := iI 1) hx hb (D_4 W_prog_5_method_26_code_0 8 rfl rfl) rfl ?_
  refine lv_bipush (v := iI 32) hx hb (D_16 W_prog_5_method_26_code_0 9 rfl rfl rfl) (by decide) ?_
  refine lv_iconst (v := iI 1) hx hb (D_4 W_prog_5_method_26_code_0 11 rfl rfl) rfl ?_
  obtain ⟨r4, F4, B4, hc4, hf⟩ := gbind hf
  refine va_calli (va_runV (As := [.int (iI 1), .int (iI 32), .int (iI 1)]) (rest := []) ⟨hx, hb, hml, hown, hts⟩ (c_Parser_takeNumber (l := l) hc4) (cwV 3 hts (gdV k_4_9 k_4_11 ks_19 k_1_4 k_4_12) rfl rfl rfl (by decide +kernel) ⟨Nat.le_of_ble_eq_true rfl, Nat.le_of_ble_eq_true rfl⟩) (zPV X hZ3 hS3 (ci := 3) g1.1 g1.2 (r := (RX3, TX3, 22)) rfl [.int (iI 1), .int (iI 32), .int (iI 1)]) rfl rfl hl.1 rfl (lv_room (Nat.le_of_ble_eq_true rfl)) (D_182 W_prog_5_method_26_code_0 12 rfl rfl rfl) ⟨Nat.le_of_ble_eq_true rfl, Nat.le_of_ble_eq_true rfl⟩) hS3 (fun q _ h => zAin X hS3 q h) (zAin X hS3) (fun p4 u4 t4 H4 locs4 ht4 hv4 hw4 hB4 hz4 hk4 hS4 => ?_)
  have hZ4 := zBack X ht4 hB4
  subst hw4
  obtain ⟨g5, hf⟩ := gif hf
  refine z0ne (tgt := 20) hx hb g5 (D_154 W_prog_5_method_26_code_0 15 rfl rfl rfl) (by decide) (fun h6 => ?_) (fun h6 => ?_)
  · replace hf := gneg hf h6
    refine lv_sipush (v := iI 128) hx hb (D_17 W_prog_5_method_26_code_0 20 rfl rfl rfl) (by decide) ?_
    refine lv_aload_n hx hb (D_42 W_prog_5_method_26_code_0 23 rfl rfl) rfl (lv_at hl 0 rfl) ?_
    refine zget (ci := 3) (C := RX3) (T := TX3) (v := .int (iI (F4 3 l0 19))) (k := 19) hx hb hts inW_3 hown hK hZ4 g1.1 g1.2 rfl (by decide) k_1_136 rfl (D_180 W_prog_5_method_26_code_0 24 rfl rfl rfl) ?_
    refine lv_iconst (v := iI 1) hx hb (D_4 W_prog_5_method_26_code_0 27 rfl rfl) rfl ?_
    obtain ⟨g7, hf⟩ := gif hf
    refine va_mmax hx hb (by rw [hml]; exact hl.1.symm) hown (hts _ k_4_19) (hts _ k_1_39) (hts _ k_1_3) (hts _ k_1_40) (Nat.le_of_ble_eq_true rfl) (Nat.le_of_ble_eq_true rfl) (Nat.le_of_ble_eq_true rfl) (Nat.le_of_ble_eq_true rfl) (D_184 W_prog_5_method_26_code_0 28 rfl rfl rfl) ?_
    rw [zmax_e g7 (by decide)]
    obtain ⟨g8, hf⟩ := gif hf
    refine zdv_r hx hb g8 (D_108 W_prog_5_method_26_code_0 31 rfl rfl) ?_
    refine lv_istore_n (lv' := [(1, .int (iI (zdv 128 (zmax (F4 3 l0 19) 1)))), (0, .ref (ad 3 l0 0))]) hx hb (D_60 W_prog_5_method_26_code_32 0 rfl rfl) rfl hl (by decide) rfl (fun ls hl => ?_)
    refine lv_iconst (v := iI 0) hx hb (D_3 W_prog_5_method_26_code_32 1 rfl rfl) rfl ?_
    refine lv_istore_n (lv' := [(2, .int (iI 0)), (1, .int (iI (zdv 128 (zmax (F4 3 l0 19) 1)))), (0, .ref (ad 3 l0 0))]) hx hb (D_61 W_prog_5_method_26_code_32 2 rfl rfl) rfl hl (by decide) rfl (fun ls hl => ?_)
    refine lv_iconst (v := iI 0) hx hb (D_3 W_prog_5_method_26_code_32 3 rfl rfl) rfl ?_
    refine lv_istore_n (lv' := [(3, .int (iI 0)), (2, .int (iI 0)), (1, .int (iI (zdv 128 (zmax (F4 3 l0 19) 1)))), (0, .ref (ad 3 l0 0))]) hx hb (D_62 W_prog_5_method_26_code_32 4 rfl rfl) rfl hl (by decide) rfl (fun ls hl => ?_)
    exact b_Parser_takeLength_37 X hf hZ4 hS4 (lv_sub hl [0, 1, 2, 3] rfl)
  · replace hf := gpos hf h6
    refine lv_iconst (v := iI 0) hx hb (D_3 W_prog_5_method_26_code_0 18 rfl rfl) rfl ?_
    cases hf
    exact W.zret hx hb hr rfl (fun t ht hW => ⟨⟨_, (), rfl, rfl, by rw [ht]; exact hZ4, va_K.moved hW.alike hK⟩, hS4.F ht⟩) hS4.2.2 (D_172 W_prog_5_method_26_code_0 19 rfl rfl) hlk

abbrev Q_Parser_takeHead (K : zK) (D : va_G) (ca : Nat → ClassId) (ad : Nat → Int → Nat → Nat) (L : List Nat) (r : Int) (F : zF) (B : zB) (A : Nat → Prop) : Array Value → State → Outcome → State → Prop := va_Qi (S := Unit) (fun p _ => p = iI r) (fun _ => zPo D ca ad lnC K.2 L F B A) A
def f_Parser_takeHead (K : zK) (l0 : Int) (l1 : Int) (F : zF) (B : zB) : zO := if 0 ≤ l0 ∧ l0 < K.2 3 then zbind (f_Parser_headSort K l0 F B) (fun r2 F2 B2 => if 0 ≤ (F2 3 l0 11) ∧ (F2 3 l0 11) < K.2 10 then zbind (f_Tokens_advance K (F2 3 l0 11) (zup3 F2 3 l0 17 (zor (F2 3 l0 17) r2)) B2) (fun r5 F5 B5 => if r32 r2 then (if r2 = 1 then zbind (f_Parser_takeKey K l0 l1 F5 B5) (fun r16 F16 B16 => if (r16 = 0 ∨ r16 = 1) then some (r16, F16, B16) else none) else (if r2 = 2 then zbind (f_Parser_takeTime K l0 l1 F5 B5) (fun r14 F14 B14 => if (r14 = 0 ∨ r14 = 1) then some (r14, F14, B14) else none) else zbind (f_Parser_takeNumber K l0 20 300 0 F5 B5) (fun r9 F9 B9 => if r32 r9 then (if r9 = 0 then some (0, F9, B9) else if 0 ≤ l1 ∧ l1 < K.2 6 then some (1, (zup3 F9 6 l1 6 (F9 3 l0 19)), B9) else none) else none))) else none) else none) else none
set_option maxHeartbeats 4000000 in
set_option maxRecDepth 100000 in
theorem c_Parser_takeHead {l : Launch} {D : va_G} {ca : Nat → ClassId} {ad : Nat → Int → Nat → Nat} {L : List Nat} {aS vS : Nat → Nat} {sz : Nat} {K : zK}  {l0 : Int} {l1 : Int} {F F9 : zF} {B B9 : zB} {r : Int} (hf : f_Parser_takeHead K l0 l1 F B = some (r, F9, B9)) : Met l ({ cls := "StaveHouse$Parser", name := "takeHead", desc := "(LStaveHouse$Piece;)Z" } : Jvm.MethodName) (Cond.code ({ cls := "StaveHouse$Parser", name := "takeHead", desc := "(LStaveHouse$Piece;)Z" } : Jvm.MethodName) prog_5_method_6_code 3 (Option.some Jvm.ClassFile.FieldType.boolean) :: wAll) ({ frames := 3, cells := 0, slots := 0, locals := 67 } : Room) (va_Pc [.ref (ad 3 l0 0), .ref (ad 6 l1 0)] (zPre D ca ad lnC K.2 L aS vS F B sz)) (Q_Parser_takeHead K D ca ad L r F9 B9 (zA L sz)) 0 0 (zA L sz) := by
  refine zMet (Qc := Q_Parser_takeHead K D ca ad L r F9 B9) (lv := [(0, .ref (ad 3 l0 0)), (1, .ref (ad 6 l1 0))]) (by decide) (Nat.le_of_ble_eq_true rfl) rfl (fun A p e s m below meth c ls X hZ hS hl => ?_)
  obtain ⟨hx, hb, hr, hml, hown, hts, hlk, hK, hA, hL, hX⟩ := id X
  replace hf : (if 0 ≤ l0 ∧ l0 < K.2 3 then zbind (f_Parser_headSort K l0 F B) (fun r2 F2 B2 => if 0 ≤ (F2 3 l0 11) ∧ (F2 3 l0 11) < K.2 10 then zbind (f_Tokens_advance K (F2 3 l0 11) (zup3 F2 3 l0 17 (zor (F2 3 l0 17) r2)) B2) (fun r5 F5 B5 => if r32 r2 then (if r2 = 1 then zbind (f_Parser_takeKey K l0 l1 F5 B5) (fun r16 F16 B16 => if (r16 = 0 ∨ r16 = 1) then some (r16, F16, B16) else none) else (if r2 = 2 then zbind (f_Parser_takeTime K l0 l1 F5 B5) (fun r14 F14 B14 => if (r14 = 0 ∨ r14 = 1) then some (r14, F14, B14) else none) else zbind (f_Parser_takeNumber K l0 20 300 0 F5 B5) (fun r9 F9 B9 => if r32 r9 then (if r9 = 0 then some (0, F9, B9) else if 0 ≤ l1 ∧ l1 < K.2 6 then some (1, (zup3 F9 6 l1 6 (F9 3 l0 19)), B9) else none) else none))) else none) else none) else none) = some (r, F9, B9) := hf
  refine lv_aload_n hx hb (D_42 W_prog_5_method_6_code_0 0 rfl rfl) rfl (lv_at hl 0 rfl) ?_
  obtain ⟨g1, hf⟩ := gif hf
  obtain ⟨r2, F2, B2, hc2, hf⟩ := gbind hf
  refine va_calli (va_runV (As := []) (rest := []) ⟨hx, hb, hml, hown, hts⟩ (c_Parser_headSort (l := l) hc2) (cwV 0 hts (gdV k_3_164 k_3_166 ks_3 k_1_4 k_3_167) rfl rfl rfl (by decide +kernel) ⟨Nat.le_of_ble_eq_true rfl, Nat.le_of_ble_eq_true rfl⟩) (zPV X hZ hS (ci := 3) g1.1 g1.2 (r := (RX3, TX3, 22)) rfl []) rfl rfl hl.1 rfl (lv_room (Nat.le_of_ble_eq_true rfl)) (D_182 W_prog_5_method_6_code_0 1 rfl rfl rfl) ⟨Nat.le_of_ble_eq_true rfl, Nat.le_of_ble_eq_true rfl⟩) hS (fun q _ h => zAin X hS q h) (zAin X hS) (fun p2 u2 t2 H2 locs2 ht2 hv2 hw2 hB2 hz2 hk2 hS2 => ?_)
  have hZ2 := zBack X ht2 hB2
  subst hw2
  refine lv_istore_n (lv' := [(2, .int (iI r2)), (0, .ref (ad 3 l0 0)), (1, .ref (ad 6 l1 0))]) hx hb (D_61 W_prog_5_method_6_code_0 4 rfl rfl) rfl hl (by decide) rfl (fun ls hl => ?_)
  refine lv_aload_n hx hb (D_42 W_prog_5_method_6_code_0 5 rfl rfl) rfl (lv_at hl 1 rfl) ?_
  refine lv_dup hx hb (D_89 W_prog_5_method_6_code_0 6 rfl rfl) rfl ?_
  refine zget (ci := 3) (C := RX3) (T := TX3) (v := .int (iI (F2 3 l0 17))) (k := 17) hx hb hts inW_3 hown hK hZ2 g1.1 g1.2 rfl (by decide) k_1_134 rfl (D_180 W_prog_5_method_6_code_0 7 rfl rfl rfl) ?_
  refine lv_iload_n hx hb (D_28 W_prog_5_method_6_code_0 10 rfl rfl) rfl (lv_at hl 0 rfl) ?_
  refine zor_r hx hb (D_128 W_prog_5_method_6_code_0 11 rfl rfl) ?_
  refine zput (ci := 3) (C := RX3) (T := TX3) (k := 17) (v := (zor (F2 3 l0 17) r2)) (w := .int (iI (zor (F2 3 l0 17) r2))) hx hb hts inW_3 tyX3 tyX3_ok nmX3 hown hK hZ2 hS2 g1.1 g1.2 rfl (by decide) k_1_134 rfl (fun G h => congrArg (fun q => Value.int (iI q)) h) rfl rfl (zno (by decide)) (D_181 W_prog_5_method_6_code_0 12 rfl rfl rfl) (fun H3 locs3 hZ3 hS3 => ?_)
  refine lv_aload_n hx hb (D_42 W_prog_5_method_6_code_0 15 rfl rfl) rfl (lv_at hl 1 rfl) ?_
  refine zget (ci := 3) (C := RX3) (T := TX3) (v := va_rf (zrf ad 10 (F2 3 l0 11))) (k := 11) hx hb hts inW_3 hown hK hZ3 g1.1 g1.2 rfl (by decide) k_1_128 (congrArg (fun q : Int => va_rf (zrf ad 10 q)) (show (zup3 F2 3 l0 17 (zor (F2 3 l0 17) r2)) 3 l0 11 = F2 3 l0 11 by simp [zup3])) (D_180 W_prog_5_method_6_code_0 16 rfl rfl rfl) ?_
  obtain ⟨g4, hf⟩ := gif hf
  refine W.eq (g2 := F0 m 19 ls [.ref (ad 10 (F2 3 l0 11) 0)]) (by rw [zrf_pos (ad := ad) (t := 10) g4.1]; try rfl) ?_
  obtain ⟨r5, F5, B5, hc5, hf⟩ := gbind hf
  refine va_callv (va_runV (As := []) (rest := []) ⟨hx, hb, hml, hown, hts⟩ (c_Tokens_advance (l := l) hc5) (cwV 0 hts (gdV k_3_180 k_3_152 k_3_153 k_1_5 k_3_154) rfl rfl rfl (by decide +kernel) ⟨Nat.le_of_ble_eq_true rfl, Nat.le_of_ble_eq_true rfl⟩) (zPV X hZ3 hS3 (ci := 10) g4.1 g4.2 (r := (RX10, TX10, 9)) rfl []) rfl rfl hl.1 rfl (lv_room (Nat.le_of_ble_eq_true rfl)) (D_182 W_prog_5_method_6_code_0 19 rfl rfl rfl) ⟨Nat.le_of_ble_eq_true rfl, Nat.le_of_ble_eq_true rfl⟩) hS3 (fun q _ h => zAin X hS3 q h) (zAin X hS3) (fun u5 t5 H5 locs5 ht5 hv5 hw5 hB5 hz5 hk5 hS5 => ?_)
  have hZ5 := zBack X ht5 hB5
  refine lv_iload_n hx hb (D_28 W_prog_5_method_6_code_0 22 rfl rfl) rfl (lv_at hl 0 rfl) ?_
  refine lv_iconst (v := iI 1) hx hb (D_4 W_prog_5_method_6_code_0 23 rfl rfl) rfl ?_
  obtain ⟨g6, hf⟩ := gif hf
  refine zne (tgt := 33) hx hb g6 (by decide) (D_160 W_prog_5_method_6_code_0 24 rfl rfl rfl) (by decide) (fun h7 => ?_) (fun h7 => ?_)
  · replace hf := gneg hf h7
    refine lv_iload_n hx hb (D_28 W_prog_5_method_6_code_32 1 rfl rfl) rfl (lv_at hl 0 rfl) ?_
    refine lv_iconst (v := iI 2) hx hb (D_5 W_prog_5_method_6_code_32 2 rfl rfl) rfl ?_
    refine zne (tgt := 44) hx hb g6 (by decide) (D_160 W_prog_5_method_6_code_32 3 rfl rfl rfl) (by decide) (fun h8 => ?_) (fun h8 => ?_)
    · replace hf := gneg hf h8
      refine lv_aload_n hx hb (D_42 W_prog_5_method_6_code_32 12 rfl rfl) rfl (lv_at hl 1 rfl) ?_
      refine lv_bipush (v := iI 20) hx hb (D_16 W_prog_5_method_6_code_32 13 rfl rfl rfl) (by decide) ?_
      refine lv_sipush (v := iI 300) hx hb (D_17 W_prog_5_method_6_code_32 15 rfl rfl rfl) (by decide) ?_
      refine lv_iconst (v := iI 0) hx hb (D_3 W_prog_5_method_6_code_32 18 rfl rfl) rfl ?_
      obtain ⟨r9, F9, B9, hc9, hf⟩ := gbind hf
      refine va_calli (va_runV (As := [.int (iI 20), .int (iI 300), .int (iI 0)]) (rest := []) ⟨hx, hb, hml, hown, hts⟩ (c_Parser_takeNumber (l := l) hc9) (cwV 3 hts (gdV k_4_9 k_4_11 ks_19 k_1_4 k_4_12) rfl rfl rfl (by decide +kernel) ⟨Nat.le_of_ble_eq_true rfl, Nat.le_of_ble_eq_true rfl⟩) (zPV X hZ5 hS5 (ci := 3) g1.1 g1.2 (r := (RX3, TX3, 22)) rfl [.int (iI 20), .int (iI 300), .int (iI 0)]) rfl rfl hl.1 rfl (lv_room (Nat.le_of_ble_eq_true rfl)) (D_182 W_prog_5_method_6_code_32 19 rfl rfl rfl) ⟨Nat.le_of_ble_eq_true rfl, Nat.le_of_ble_eq_true rfl⟩) hS5 (fun q _ h => zAin X hS5 q h) (zAin X hS5) (fun p9 u9 t9 H9 locs9 ht9 hv9 hw9 hB9 hz9 hk9 hS9 => ?_)
      have hZ9 := zBack X ht9 hB9
      subst hw9
      obtain ⟨g10, hf⟩ := gif hf
      refine z0ne (tgt := 59) hx hb g10 (D_154 W_prog_5_method_6_code_32 22 rfl rfl rfl) (by decide) (fun h11 => ?_) (fun h11 => ?_)
      · replace hf := gneg hf h11
        refine lv_aload_n hx hb (D_43 W_prog_5_method_6_code_32 27 rfl rfl) rfl (lv_at hl 2 rfl) ?_
        refine lv_aload_n hx hb (D_42 W_prog_5_method_6_code_32 28 rfl rfl) rfl (lv_at hl 1 rfl) ?_
        refine zget (ci := 3) (C := RX3) (T := TX3) (v := .int (iI (F9 3 l0 19))) (k := 19) hx hb hts inW_3 hown hK hZ9 g1.1 g1.2 rfl (by decide) k_1_136 rfl (D_180 W_prog_5_method_6_code_32 29 rfl rfl rfl) ?_
        obtain ⟨g12, hf⟩ := gif hf
        refine zput (ci := 6) (C := RX6) (T := TX6) (k := 6) (v := (F9 3 l0 19)) (w := .int (iI (F9 3 l0 19))) hx hb hts inW_6 tyX6 tyX6_ok nmX6 hown hK hZ9 hS9 g12.1 g12.2 rfl (by decide) k_2_218 rfl (fun G h => congrArg (fun q => Value.int (iI q)) h) rfl rfl (zno (by decide)) (D_181 W_prog_5_method_6_code_64 0 rfl rfl rfl) (fun H13 locs13 hZ13 hS13 => ?_)
        refine lv_iconst (v := iI 1) hx hb (D_4 W_prog_5_method_6_code_64 3 rfl rfl) rfl ?_
        cases hf
        exact W.zret hx hb hr rfl (fun t ht hW => ⟨⟨_, (), rfl, rfl, by rw [ht]; exact hZ13, va_K.moved hW.alike hK⟩, hS13.F ht⟩) hS13.2.2 (D_172 W_prog_5_method_6_code_64 4 rfl rfl) hlk
      · replace hf := gpos hf h11
        refine lv_iconst (v := iI 0) hx hb (D_3 W_prog_5_method_6_code_32 25 rfl rfl) rfl ?_
        cases hf
        exact W.zret hx hb hr rfl (fun t ht hW => ⟨⟨_, (), rfl, rfl, by rw [ht]; exact hZ9, va_K.moved hW.alike hK⟩, hS9.F ht⟩) hS9.2.2 (D_172 W_prog_5_method_6_code_32 26 rfl rfl) hlk
    · replace hf := gpos hf h8
      refine lv_aload_n hx hb (D_42 W_prog_5_method_6_code_32 6 rfl rfl) rfl (lv_at hl 1 rfl) ?_
      refine lv_aload_n hx hb (D_43 W_prog_5_method_6_code_32 7 rfl rfl) rfl (lv_at hl 2 rfl) ?_
      obtain ⟨r14, F14, B14, hc14, hf⟩ := gbind hf
      refine va_calli (va_runV (As := [.ref (ad 6 l1 0)]) (rest := []) ⟨hx, hb, hml, hown, hts⟩ (c_Parser_takeTime (l := l) hc14) (cwV 1 hts (gdV k_4_87 k_4_89 ks_32 k_1_4 k_4_90) rfl rfl rfl (by decide +kernel) ⟨Nat.le_of_ble_eq_true rfl, Nat.le_of_ble_eq_true rfl⟩) (zPV X hZ5 hS5 (ci := 3) g1.1 g1.2 (r := (RX3, TX3, 22)) rfl [.ref (ad 6 l1 0)]) rfl rfl hl.1 rfl (lv_room (Nat.le_of_ble_eq_true rfl)) (D_182 W_prog_5_method_6_code_32 8 rfl rfl rfl) ⟨Nat.le_of_ble_eq_true rfl, Nat.le_of_ble_eq_true rfl⟩) hS5 (fun q _ h => zAin X hS5 q h) (zAin X hS5) (fun p14 u14 t14 H14 locs14 ht14 hv14 hw14 hB14 hz14 hk14 hS14 => ?_)
      have hZ14 := zBack X ht14 hB14
      subst hw14
      obtain ⟨g15, hf⟩ := gif hf
      cases hf
      exact W.zret hx hb hr (zbool g15) (fun t ht hW => ⟨⟨_, (), rfl, rfl, by rw [ht]; exact hZ14, va_K.moved hW.alike hK⟩, hS14.F ht⟩) hS14.2.2 (D_172 W_prog_5_method_6_code_32 11 rfl rfl) hlk
  · replace hf := gpos hf h7
    refine lv_aload_n hx hb (D_42 W_prog_5_method_6_code_0 27 rfl rfl) rfl (lv_at hl 1 rfl) ?_
    refine lv_aload_n hx hb (D_43 W_prog_5_method_6_code_0 28 rfl rfl) rfl (lv_at hl 2 rfl) ?_
    obtain ⟨r16, F16, B16, hc16, hf⟩ := gbind hf
    refine va_calli (va_runV (As := [.ref (ad 6 l1 0)]) (rest := []) ⟨hx, hb, hml, hown, hts⟩ (c_Parser_takeKey (l := l) hc16) (cwV 1 hts (gdV k_4_81 k_4_83 ks_31 k_1_4 k_4_84) rfl rfl rfl (by decide +kernel) ⟨Nat.le_of_ble_eq_true rfl, Nat.le_of_ble_eq_true rfl⟩) (zPV X hZ5 hS5 (ci := 3) g1.1 g1.2 (r := (RX3, TX3, 22)) rfl [.ref (ad 6 l1 0)]) rfl rfl hl.1 rfl (lv_room (Nat.le_of_ble_eq_true rfl)) (D_182 W_prog_5_method_6_code_0 29 rfl rfl rfl) ⟨Nat.le_of_ble_eq_true rfl, Nat.le_of_ble_eq_true rfl⟩) hS5 (fun q _ h => zAin X hS5 q h) (zAin X hS5) (fun p16 u16 t16 H16 locs16 ht16 hv16 hw16 hB16 hz16 hk16 hS16 => ?_)
    have hZ16 := zBack X ht16 hB16
    subst hw16
    obtain ⟨g17, hf⟩ := gif hf
    cases hf
    exact W.zret hx hb hr (zbool g17) (fun t ht hW => ⟨⟨_, (), rfl, rfl, by rw [ht]; exact hZ16, va_K.moved hW.alike hK⟩, hS16.F ht⟩) hS16.2.2 (D_172 W_prog_5_method_6_code_32 0 rfl rfl) hlk

abbrev Q_Walker_makeEvent (K : zK) (D : va_G) (ca : Nat → ClassId) (ad : Nat → Int → Nat → Nat) (L : List Nat) (r : Int) (F : zF) (B : zB) (A : Nat → Prop) : Array Value → State → Outcome → State → Prop := va_Qv (S := Unit) (fun _ => True) (fun _ => zPo D ca ad lnC K.2 L F B A) A
def f_Walker_makeEvent_273 (K : zK) (l4 : Int) (l0 : Int) (F : zF) (B : zB) : zO := if 0 ≤ l0 ∧ l0 < K.2 11 then if 0 ≤ (F 11 l0 1) ∧ (F 11 l0 1) < K.2 4 then some (0, (zup3 (zup3 F 4 (F 11 l0 1) 6 ((F 4 (F 11 l0 1) 6) + 1)) 11 l0 11 ((F 11 l0 11) + l4)), B) else none else none
set_option maxHeartbeats 4000000 in
set_option maxRecDepth 100000 in
theorem b_Walker_makeEvent_273 {D : va_G} {ca : Nat → ClassId} {ad : Nat → Int → Nat → Nat} {L : List Nat} {aS vS : Nat → Nat} {A : Nat → Prop} {p : Program} {l : Launch} {e : Env} {s : State} {m : MethodId} {args : Array Value} {below : List Frame} {meth : Method} {c : Code} {K : zK} {r : Int} {F9 : zF} {B9 : zB} (X : zX D ca L aS vS A p s m args meth c prog_13_method_13_code 8 (Option.none : Option Jvm.ClassFile.FieldType) "StaveHouse$Walker") {l4 : Int} {l0 : Int} {F : zF} {B : zB} {H : Heap} {locs : List Loc} {ls : Array Slot} (hf : f_Walker_makeEvent_273 K l4 l0 F B = some (r, F9, B9)) (hZ : zH D ca ad lnC K.2 L F B A H) (hS : va_S A s.heap H locs) (hl : lv_has ls 8 [(4, .long (lI l4)), (0, .ref (ad 11 l0 0))]) : W p l e ({ frames := 3, cells := 0, slots := 0, locals := 68 } : Room) s m args below meth c H locs 0 0 (MQ below (Q_Walker_makeEvent K D ca ad L r F9 B9 A) args s 0 0 A) (F0 m 273 ls []) := by
  obtain ⟨hx, hb, hr, hml, hown, hts, hlk, hK, hA, hL, hX⟩ := id X
  replace hf : (if 0 ≤ l0 ∧ l0 < K.2 11 then if 0 ≤ (F 11 l0 1) ∧ (F 11 l0 1) < K.2 4 then some (0, (zup3 (zup3 F 4 (F 11 l0 1) 6 ((F 4 (F 11 l0 1) 6) + 1)) 11 l0 11 ((F 11 l0 11) + l4)), B) else none else none) = some (r, F9, B9) := hf
  refine lv_aload_n hx hb (D_42 W_prog_13_method_13_code_256 17 rfl rfl) rfl (lv_at hl 1 rfl) ?_
  obtain ⟨g54, hf⟩ := gif hf
  refine zget (ci := 11) (C := RX11) (T := TX11) (v := va_rf (zrf ad 4 (F 11 l0 1))) (k := 1) hx hb hts inW_11 hown hK hZ g54.1 g54.2 rfl (by decide) k_1_191 rfl (D_180 W_prog_13_method_13_code_256 18 rfl rfl rfl) ?_
  refine lv_dup hx hb (D_89 W_prog_13_method_13_code_256 21 rfl rfl) (zcat _) ?_
  obtain ⟨g55, hf⟩ := gif hf
  refine zunrf g55.1 ?_
  refine zget (ci := 4) (C := RX4) (T := TX4) (v := .int (iI (F 4 (F 11 l0 1) 6))) (k := 6) hx hb hts inW_4 hown hK hZ g55.1 g55.2 rfl (by decide) k_4_139 rfl (D_180 W_prog_13_method_13_code_256 22 rfl rfl rfl) ?_
  refine lv_iconst (v := iI 1) hx hb (D_4 W_prog_13_method_13_code_256 25 rfl rfl) rfl ?_
  refine zadd hx hb (D_96 W_prog_13_method_13_code_256 26 rfl rfl) ?_
  refine W.eq (g2 := F0 m 283 ls [.int (iI ((F 4 (F 11 l0 1) 6) + 1)), .ref (ad 4 (F 11 l0 1) 0)]) (by rw [zrf_pos (ad := ad) (t := 4) g55.1]; try rfl) ?_
  refine zput (ci := 4) (C := RX4) (T := TX4) (k := 6) (v := ((F 4 (F 11 l0 1) 6) + 1)) (w := .int (iI ((F 4 (F 11 l0 1) 6) + 1))) hx hb hts inW_4 tyX4 tyX4_ok nmX4 hown hK hZ hS g55.1 g55.2 rfl (by decide) k_4_139 rfl (fun G h => congrArg (fun q => Value.int (iI q)) h) rfl rfl (zno (by decide)) (D_181 W_prog_13_method_13_code_256 27 rfl rfl rfl) (fun H56 locs56 hZ56 hS56 => ?_)
  refine lv_aload_n hx hb (D_42 W_prog_13_method_13_code_256 30 rfl rfl) rfl (lv_at hl 1 rfl) ?_
  refine lv_dup hx hb (D_89 W_prog_13_method_13_code_256 31 rfl rfl) rfl ?_
  refine zget (ci := 11) (C := RX11) (T := TX11) (v := .long (lI (F 11 l0 11))) (k := 11) hx hb hts inW_11 hown hK hZ56 g54.1 g54.2 rfl (by decide) k_1_201 (congrArg (fun q : Int => Value.long (lI q)) (show (zup3 F 4 (F 11 l0 1) 6 ((F 4 (F 11 l0 1) 6) + 1)) 11 l0 11 = F 11 l0 11 by simp [zup3])) (D_180 W_prog_13_method_13_code_288 0 rfl rfl rfl) ?_
  refine lv_lload hx hb (D_22 W_prog_13_method_13_code_288 3 rfl rfl) (lv_at hl 0 rfl) ?_
  refine zladd hx hb (D_97 W_prog_13_method_13_code_288 5 rfl rfl) ?_
  refine zput (ci := 11) (C := RX11) (T := TX11) (k := 11) (v := ((F 11 l0 11) + l4)) (w := .long (lI ((F 11 l0 11) + l4))) hx hb hts inW_11 tyX11 tyX11_ok nmX11 hown hK hZ56 hS56 g54.1 g54.2 rfl (by decide) k_1_201 rfl (fun G h => congrArg (fun q => Value.long (lI q)) h) rfl rfl (zno (by decide)) (D_181 W_prog_13_method_13_code_288 6 rfl rfl rfl) (fun H57 locs57 hZ57 hS57 => ?_)
  cases hf
  exact W.vret hx hb hr (fun t ht hW => ⟨⟨(), rfl, trivial, by rw [ht]; exact hZ57, va_K.moved hW.alike hK⟩, hS57.F ht⟩) hS57.2.2 (D_177 W_prog_13_method_13_code_288 9 rfl rfl) hlk

def f_Walker_makeEvent_228 (K : zK) : Nat → Int → Int → Int → Int → Int → zF → zB → zO
  | 0, _, _, _, _, _, _, _ => none
  | n + 1, l7, l6, l4, l0, l1, F, B => if 0 ≤ l0 ∧ l0 < K.2 11 then if 0 ≤ (F 11 l0 0) ∧ (F 11 l0 0) < K.2 3 then if 0 ≤ l1 ∧ l1 < 3000 then if r32 l7 then if r32 (B 3 (F 11 l0 0) 6 l1) then (if (B 3 (F 11 l0 0) 6 l1) ≤ l7 then f_Walker_makeEvent_273 K l4 l0 F B else if r32 (F 11 l0 2) then (if (F 11 l0 2) = 0 then if 0 ≤ l6 ∧ l6 < K.2 1 then zbind (f_Walker_addPitch K l0 l6 ((B 3 (F 11 l0 0) 3 l1) + l7) F B) (fun r53 F53 B53 => f_Walker_makeEvent_228 K n (l7 + 1) l6 l4 l0 l1 F53 B53) else none else f_Walker_makeEvent_273 K l4 l0 F B) else none) else none else none else none else none else none
set_option maxHeartbeats 4000000 in
set_option maxRecDepth 100000 in
theorem b_Walker_makeEvent_228 {D : va_G} {ca : Nat → ClassId} {ad : Nat → Int → Nat → Nat} {L : List Nat} {aS vS : Nat → Nat} {A : Nat → Prop} {p : Program} {l : Launch} {e : Env} {s : State} {m : MethodId} {args : Array Value} {below : List Frame} {meth : Method} {c : Code} {K : zK} {r : Int} {F9 : zF} {B9 : zB} (X : zX D ca L aS vS A p s m args meth c prog_13_method_13_code 8 (Option.none : Option Jvm.ClassFile.FieldType) "StaveHouse$Walker") : ∀ {n : Nat} {l7 : Int} {l6 : Int} {l4 : Int} {l0 : Int} {l1 : Int} {F : zF} {B : zB} {H : Heap} {locs : List Loc} {ls : Array Slot}, f_Walker_makeEvent_228 K n l7 l6 l4 l0 l1 F B = some (r, F9, B9) → zH D ca ad lnC K.2 L F B A H → va_S A s.heap H locs → lv_has ls 8 [(7, .int (iI l7)), (6, va_rf (zrf ad 1 l6)), (4, .long (lI l4)), (0, .ref (ad 11 l0 0)), (1, .int (iI l1))] → W p l e ({ frames := 3, cells := 0, slots := 0, locals := 68 } : Room) s m args below meth c H locs 0 0 (MQ below (Q_Walker_makeEvent K D ca ad L r F9 B9 A) args s 0 0 A) (F0 m 228 ls []) := by
  obtain ⟨hx, hb, hr, hml, hown, hts, hlk, hK, hA, hL, hX⟩ := id X
  intro n
  induction n with
  | zero =>
    intros
    rename_i hf _ _ _
    cases hf
  | succ n ih =>
    intro l7 l6 l4 l0 l1 F B H locs ls hf hZ hS hl
    replace hf : (if 0 ≤ l0 ∧ l0 < K.2 11 then if 0 ≤ (F 11 l0 0) ∧ (F 11 l0 0) < K.2 3 then if 0 ≤ l1 ∧ l1 < 3000 then if r32 l7 then if r32 (B 3 (F 11 l0 0) 6 l1) then (if (B 3 (F 11 l0 0) 6 l1) ≤ l7 then f_Walker_makeEvent_273 K l4 l0 F B else if r32 (F 11 l0 2) then (if (F 11 l0 2) = 0 then if 0 ≤ l6 ∧ l6 < K.2 1 then zbind (f_Walker_addPitch K l0 l6 ((B 3 (F 11 l0 0) 3 l1) + l7) F B) (fun r53 F53 B53 => f_Walker_makeEvent_228 K n (l7 + 1) l6 l4 l0 l1 F53 B53) else none else f_Walker_makeEvent_273 K l4 l0 F B) else none) else none else none else none else none else none) = some (r, F9, B9) := hf
    refine lv_iload hx hb (D_21 W_prog_13_method_13_code_224 4 rfl rfl) (lv_at hl 0 rfl) ?_
    refine lv_aload_n hx hb (D_42 W_prog_13_method_13_code_224 6 rfl rfl) rfl (lv_at hl 3 rfl) ?_
    obtain ⟨g44, hf⟩ := gif hf
    refine zget (ci := 11) (C := RX11) (T := TX11) (v := va_rf (zrf ad 3 (F 11 l0 0))) (k := 0) hx hb hts inW_11 hown hK hZ g44.1 g44.2 rfl (by decide) k_1_190 rfl (D_180 W_prog_13_method_13_code_224 7 rfl rfl rfl) ?_
    obtain ⟨g45, hf⟩ := gif hf
    refine zunrf g45.1 ?_
    refine zget (ci := 3) (C := RX3) (T := TX3) (v := .ref (ad 3 (F 11 l0 0) (6 + 1))) (k := 6) hx hb hts inW_3 hown hK hZ g45.1 g45.2 rfl (by decide) k_1_119 rfl (D_180 W_prog_13_method_13_code_224 10 rfl rfl rfl) ?_
    refine lv_iload_n hx hb (D_27 W_prog_13_method_13_code_224 13 rfl rfl) rfl (lv_at hl 4 rfl) ?_
    obtain ⟨g46, hf⟩ := gif hf
    refine zald (ci := 3) (k := 6) hx hb hK rfl hZ g45.1 g45.2 rfl (Nat.le_of_ble_eq_true rfl) g46.1 g46.2 (D_46 W_prog_13_method_13_code_224 14 rfl rfl) ?_
    obtain ⟨g47, hf⟩ := gif hf
    obtain ⟨g48, hf⟩ := gif hf
    refine zge (tgt := 273) hx hb g47 g48 (D_162 W_prog_13_method_13_code_224 15 rfl rfl rfl) (by decide) (fun h49 => ?_) (fun h49 => ?_)
    · replace hf := gpos hf h49
      exact b_Walker_makeEvent_273 X hf hZ hS (lv_sub hl [2, 3] rfl)
    · replace hf := gneg hf h49
      refine lv_aload_n hx hb (D_42 W_prog_13_method_13_code_224 18 rfl rfl) rfl (lv_at hl 3 rfl) ?_
      refine zget (ci := 11) (C := RX11) (T := TX11) (v := .int (iI (F 11 l0 2))) (k := 2) hx hb hts inW_11 hown hK hZ g44.1 g44.2 rfl (by decide) k_1_192 rfl (D_180 W_prog_13_method_13_code_224 19 rfl rfl rfl) ?_
      obtain ⟨g50, hf⟩ := gif hf
      refine z0ne (tgt := 273) hx hb g50 (D_154 W_prog_13_method_13_code_224 22 rfl rfl rfl) (by decide) (fun h51 => ?_) (fun h51 => ?_)
      · replace hf := gneg hf h51
        exact b_Walker_makeEvent_273 X hf hZ hS (lv_sub hl [2, 3] rfl)
      · replace hf := gpos hf h51
        refine lv_aload_n hx hb (D_42 W_prog_13_method_13_code_224 25 rfl rfl) rfl (lv_at hl 3 rfl) ?_
        refine zaload hx hb (D_25 W_prog_13_method_13_code_224 26 rfl rfl) (lv_at hl 1 rfl) ?_
        refine lv_aload_n hx hb (D_42 W_prog_13_method_13_code_224 28 rfl rfl) rfl (lv_at hl 3 rfl) ?_
        refine zget (ci := 11) (C := RX11) (T := TX11) (v := va_rf (zrf ad 3 (F 11 l0 0))) (k := 0) hx hb hts inW_11 hown hK hZ g44.1 g44.2 rfl (by decide) k_1_190 rfl (D_180 W_prog_13_method_13_code_224 29 rfl rfl rfl) ?_
        refine zunrf g45.1 ?_
        refine zget (ci := 3) (C := RX3) (T := TX3) (v := .ref (ad 3 (F 11 l0 0) (3 + 1))) (k := 3) hx hb hts inW_3 hown hK hZ g45.1 g45.2 rfl (by decide) k_1_113 rfl (D_180 W_prog_13_method_13_code_256 0 rfl rfl rfl) ?_
        refine lv_iload_n hx hb (D_27 W_prog_13_method_13_code_256 3 rfl rfl) rfl (lv_at hl 4 rfl) ?_
        refine zald (ci := 3) (k := 3) hx hb hK rfl hZ g45.1 g45.2 rfl (Nat.le_of_ble_eq_true rfl) g46.1 g46.2 (D_46 W_prog_13_method_13_code_256 4 rfl rfl) ?_
        refine lv_iload hx hb (D_21 W_prog_13_method_13_code_256 5 rfl rfl) (lv_at hl 0 rfl) ?_
        refine zadd hx hb (D_96 W_prog_13_method_13_code_256 7 rfl rfl) ?_
        obtain ⟨g52, hf⟩ := gif hf
        refine W.eq (g2 := F0 m 264 ls [.int (iI ((B 3 (F 11 l0 0) 3 l1) + l7)), .ref (ad 1 l6 0), .ref (ad 11 l0 0)]) (by rw [zrf_pos (ad := ad) (t := 1) g52.1]; try rfl) ?_
        obtain ⟨r53, F53, B53, hc53, hf⟩ := gbind hf
        refine va_callv (va_runV (As := [.ref (ad 1 l6 0), .int (iI ((B 3 (F 11 l0 0) 3 l1) + l7))]) (rest := []) ⟨hx, hb, hml, hown, hts⟩ (c_Walker_addPitch (l := l) hc53) (cwV 2 hts (gdV k_4_223 k_4_225 ks_40 k_1_6 k_4_226) rfl rfl rfl (by decide +kernel) ⟨Nat.le_of_ble_eq_true rfl, Nat.le_of_ble_eq_true rfl⟩) (zPV X hZ hS (ci := 11) g44.1 g44.2 (r := (RX11, TX11, 19)) rfl [.ref (ad 1 l6 0), .int (iI ((B 3 (F 11 l0 0) 3 l1) + l7))]) rfl rfl hl.1 rfl (lv_room (Nat.le_of_ble_eq_true rfl)) (D_182 W_prog_13_method_13_code_256 8 rfl rfl rfl) ⟨Nat.le_of_ble_eq_true rfl, Nat.le_of_ble_eq_true rfl⟩) hS (fun q _ h => zAin X hS q h) (zAin X hS) (fun u53 t53 H53 locs53 ht53 hv53 hw53 hB53 hz53 hk53 hS53 => ?_)
        have hZ53 := zBack X ht53 hB53
        refine lv_iinc (v := iI (l7 + 1)) (lv' := [(7, .int (iI (l7 + 1))), (6, va_rf (zrf ad 1 l6)), (4, .long (lI l4)), (0, .ref (ad 11 l0 0)), (1, .int (iI l1))]) hx hb d_13_13_267 hl (k := 0) rfl (iI_add _ 1) (by decide) (by cases zrf ad 1 l6 <;> rfl) (fun ls hl => ?_)
        refine lv_goto (tgt := 228) hx hb (D_167 W_prog_13_method_13_code_256 14 rfl rfl rfl) (by decide) ?_
        exact ih hf hZ53 hS53 (lv_sub hl [0, 1, 2, 3, 4] rfl)

def f_Walker_makeEvent_178 (K : zK) (l6 : Int) (l4 : Int) (l2 : Int) (l0 : Int) (l1 : Int) (s0 : Int) (s1 : Int) (F : zF) (B : zB) : zO := if 0 ≤ s0 ∧ s0 < K.2 1 then if 0 ≤ l0 ∧ l0 < K.2 11 then if 0 ≤ l6 ∧ l6 < K.2 1 then if 0 ≤ (F 11 l0 0) ∧ (F 11 l0 0) < K.2 3 then if 0 ≤ l1 ∧ l1 < 3000 then f_Walker_makeEvent_228 K K.1 0 l6 l4 l0 l1 (zup3 (zup3 (zup3 (zup3 (zup3 (zup3 F 1 s0 5 s1) 1 l6 6 (F 11 l0 8)) 1 l6 7 (B 3 (F 11 l0 0) 7 l1)) 1 l6 8 (F 11 l0 4)) 1 l6 9 l2) 1 l6 10 0) B else none else none else none else none else none
set_option maxHeartbeats 4000000 in
set_option maxRecDepth 100000 in
theorem b_Walker_makeEvent_178 {D : va_G} {ca : Nat → ClassId} {ad : Nat → Int → Nat → Nat} {L : List Nat} {aS vS : Nat → Nat} {A : Nat → Prop} {p : Program} {l : Launch} {e : Env} {s : State} {m : MethodId} {args : Array Value} {below : List Frame} {meth : Method} {c : Code} {K : zK} {r : Int} {F9 : zF} {B9 : zB} (X : zX D ca L aS vS A p s m args meth c prog_13_method_13_code 8 (Option.none : Option Jvm.ClassFile.FieldType) "StaveHouse$Walker") {l6 : Int} {l4 : Int} {l2 : Int} {l0 : Int} {l1 : Int} {s0 : Int} {s1 : Int} {F : zF} {B : zB} {H : Heap} {locs : List Loc} {ls : Array Slot} (hf : f_Walker_makeEvent_178 K l6 l4 l2 l0 l1 s0 s1 F B = some (r, F9, B9)) (hZ : zH D ca ad lnC K.2 L F B A H) (hS : va_S A s.heap H locs) (hl : lv_has ls 8 [(6, va_rf (zrf ad 1 l6)), (4, .long (lI l4)), (2, .int (iI l2)), (0, .ref (ad 11 l0 0)), (1, .int (iI l1))]) : W p l e ({ frames := 3, cells := 0, slots := 0, locals := 68 } : Room) s m args below meth c H locs 0 0 (MQ below (Q_Walker_makeEvent K D ca ad L r F9 B9 A) args s 0 0 A) (F0 m 178 ls [.int (iI s1), va_rf (zrf ad 1 s0)]) := by
  obtain ⟨hx, hb, hr, hml, hown, hts, hlk, hK, hA, hL, hX⟩ := id X
  replace hf : (if 0 ≤ s0 ∧ s0 < K.2 1 then if 0 ≤ l0 ∧ l0 < K.2 11 then if 0 ≤ l6 ∧ l6 < K.2 1 then if 0 ≤ (F 11 l0 0) ∧ (F 11 l0 0) < K.2 3 then if 0 ≤ l1 ∧ l1 < 3000 then f_Walker_makeEvent_228 K K.1 0 l6 l4 l0 l1 (zup3 (zup3 (zup3 (zup3 (zup3 (zup3 F 1 s0 5 s1) 1 l6 6 (F 11 l0 8)) 1 l6 7 (B 3 (F 11 l0 0) 7 l1)) 1 l6 8 (F 11 l0 4)) 1 l6 9 l2) 1 l6 10 0) B else none else none else none else none else none) = some (r, F9, B9) := hf
  obtain ⟨g33, hf⟩ := gif hf
  refine W.eq (g2 := F0 m 178 ls [.int (iI s1), .ref (ad 1 s0 0)]) (by rw [zrf_pos (ad := ad) (t := 1) g33.1]; try rfl) ?_
  refine zput (ci := 1) (C := RX1) (T := TX1) (k := 5) (v := s1) (w := .int (iI s1)) hx hb hts inW_1 tyX1 tyX1_ok nmX1 hown hK hZ hS g33.1 g33.2 rfl (by decide) k_2_35 rfl (fun G h => congrArg (fun q => Value.int (iI q)) h) rfl rfl (zno (by decide)) (D_181 W_prog_13_method_13_code_160 18 rfl rfl rfl) (fun H34 locs34 hZ34 hS34 => ?_)
  refine zaload hx hb (D_25 W_prog_13_method_13_code_160 21 rfl rfl) (lv_at hl 0 rfl) ?_
  refine lv_aload_n hx hb (D_42 W_prog_13_method_13_code_160 23 rfl rfl) rfl (lv_at hl 3 rfl) ?_
  obtain ⟨g35, hf⟩ := gif hf
  refine zget (ci := 11) (C := RX11) (T := TX11) (v := .int (iI (F 11 l0 8))) (k := 8) hx hb hts inW_11 hown hK hZ34 g35.1 g35.2 rfl (by decide) k_1_198 (congrArg (fun q : Int => Value.int (iI q)) (show (zup3 F 1 s0 5 s1) 11 l0 8 = F 11 l0 8 by simp [zup3])) (D_180 W_prog_13_method_13_code_160 24 rfl rfl rfl) ?_
  obtain ⟨g36, hf⟩ := gif hf
  refine W.eq (g2 := F0 m 187 ls [.int (iI (F 11 l0 8)), .ref (ad 1 l6 0)]) (by rw [zrf_pos (ad := ad) (t := 1) g36.1]; try rfl) ?_
  refine zput (ci := 1) (C := RX1) (T := TX1) (k := 6) (v := (F 11 l0 8)) (w := .int (iI (F 11 l0 8))) hx hb hts inW_1 tyX1 tyX1_ok nmX1 hown hK hZ34 hS34 g36.1 g36.2 rfl (by decide) k_2_37 rfl (fun G h => congrArg (fun q => Value.int (iI q)) h) rfl rfl (zno (by decide)) (D_181 W_prog_13_method_13_code_160 27 rfl rfl rfl) (fun H37 locs37 hZ37 hS37 => ?_)
  refine zaload hx hb (D_25 W_prog_13_method_13_code_160 30 rfl rfl) (lv_at hl 0 rfl) ?_
  refine lv_aload_n hx hb (D_42 W_prog_13_method_13_code_192 0 rfl rfl) rfl (lv_at hl 3 rfl) ?_
  refine zget (ci := 11) (C := RX11) (T := TX11) (v := va_rf (zrf ad 3 (F 11 l0 0))) (k := 0) hx hb hts inW_11 hown hK hZ37 g35.1 g35.2 rfl (by decide) k_1_190 (congrArg (fun q : Int => va_rf (zrf ad 3 q)) (show (zup3 (zup3 F 1 s0 5 s1) 1 l6 6 (F 11 l0 8)) 11 l0 0 = F 11 l0 0 by simp [zup3])) (D_180 W_prog_13_method_13_code_192 1 rfl rfl rfl) ?_
  obtain ⟨g38, hf⟩ := gif hf
  refine zunrf g38.1 ?_
  refine zget (ci := 3) (C := RX3) (T := TX3) (v := .ref (ad 3 (F 11 l0 0) (7 + 1))) (k := 7) hx hb hts inW_3 hown hK hZ37 g38.1 g38.2 rfl (by decide) k_1_121 rfl (D_180 W_prog_13_method_13_code_192 4 rfl rfl rfl) ?_
  refine lv_iload_n hx hb (D_27 W_prog_13_method_13_code_192 7 rfl rfl) rfl (lv_at hl 4 rfl) ?_
  obtain ⟨g39, hf⟩ := gif hf
  refine zald (ci := 3) (k := 7) hx hb hK rfl hZ37 g38.1 g38.2 rfl (Nat.le_of_ble_eq_true rfl) g39.1 g39.2 (D_46 W_prog_13_method_13_code_192 8 rfl rfl) ?_
  refine W.eq (g2 := F0 m 201 ls [.int (iI (B 3 (F 11 l0 0) 7 l1)), .ref (ad 1 l6 0)]) (by rw [zrf_pos (ad := ad) (t := 1) g36.1]; try rfl) ?_
  refine zput (ci := 1) (C := RX1) (T := TX1) (k := 7) (v := (B 3 (F 11 l0 0) 7 l1)) (w := .int (iI (B 3 (F 11 l0 0) 7 l1))) hx hb hts inW_1 tyX1 tyX1_ok nmX1 hown hK hZ37 hS37 g36.1 g36.2 rfl (by decide) k_2_41 rfl (fun G h => congrArg (fun q => Value.int (iI q)) h) rfl rfl (zno (by decide)) (D_181 W_prog_13_method_13_code_192 9 rfl rfl rfl) (fun H40 locs40 hZ40 hS40 => ?_)
  refine zaload hx hb (D_25 W_prog_13_method_13_code_192 12 rfl rfl) (lv_at hl 0 rfl) ?_
  refine lv_aload_n hx hb (D_42 W_prog_13_method_13_code_192 14 rfl rfl) rfl (lv_at hl 3 rfl) ?_
  refine zget (ci := 11) (C := RX11) (T := TX11) (v := .int (iI (F 11 l0 4))) (k := 4) hx hb hts inW_11 hown hK hZ40 g35.1 g35.2 rfl (by decide) k_1_194 (congrArg (fun q : Int => Value.int (iI q)) (show (zup3 (zup3 (zup3 F 1 s0 5 s1) 1 l6 6 (F 11 l0 8)) 1 l6 7 (B 3 (F 11 l0 0) 7 l1)) 11 l0 4 = F 11 l0 4 by simp [zup3])) (D_180 W_prog_13_method_13_code_192 15 rfl rfl rfl) ?_
  refine W.eq (g2 := F0 m 210 ls [.int (iI (F 11 l0 4)), .ref (ad 1 l6 0)]) (by rw [zrf_pos (ad := ad) (t := 1) g36.1]; try rfl) ?_
  refine zput (ci := 1) (C := RX1) (T := TX1) (k := 8) (v := (F 11 l0 4)) (w := .int (iI (F 11 l0 4))) hx hb hts inW_1 tyX1 tyX1_ok nmX1 hown hK hZ40 hS40 g36.1 g36.2 rfl (by decide) k_2_44 rfl (fun G h => congrArg (fun q => Value.int (iI q)) h) rfl rfl (zno (by decide)) (D_181 W_prog_13_method_13_code_192 18 rfl rfl rfl) (fun H41 locs41 hZ41 hS41 => ?_)
  refine zaload hx hb (D_25 W_prog_13_method_13_code_192 21 rfl rfl) (lv_at hl 0 rfl) ?_
  refine lv_iload_n hx hb (D_28 W_prog_13_method_13_code_192 23 rfl rfl) rfl (lv_at hl 2 rfl) ?_
  refine W.eq (g2 := F0 m 216 ls [.int (iI l2), .ref (ad 1 l6 0)]) (by rw [zrf_pos (ad := ad) (t := 1) g36.1]; try rfl) ?_
  refine zput (ci := 1) (C := RX1) (T := TX1) (k := 9) (v := l2) (w := .int (iI l2)) hx hb hts inW_1 tyX1 tyX1_ok nmX1 hown hK hZ41 hS41 g36.1 g36.2 rfl (by decide) k_2_47 rfl (fun G h => congrArg (fun q => Value.int (iI q)) h) rfl rfl (zno (by decide)) (D_181 W_prog_13_method_13_code_192 24 rfl rfl rfl) (fun H42 locs42 hZ42 hS42 => ?_)
  refine zaload hx hb (D_25 W_prog_13_method_13_code_192 27 rfl rfl) (lv_at hl 0 rfl) ?_
  refine lv_iconst (v := iI 0) hx hb (D_3 W_prog_13_method_13_code_192 29 rfl rfl) rfl ?_
  refine W.eq (g2 := F0 m 222 ls [.int (iI 0), .ref (ad 1 l6 0)]) (by rw [zrf_pos (ad := ad) (t := 1) g36.1]; try rfl) ?_
  refine zput (ci := 1) (C := RX1) (T := TX1) (k := 10) (v := 0) (w := .int (iI 0)) hx hb hts inW_1 tyX1 tyX1_ok nmX1 hown hK hZ42 hS42 g36.1 g36.2 rfl (by decide) k_2_53 rfl (fun G h => congrArg (fun q => Value.int (iI q)) h) rfl rfl (zno (by decide)) (D_181 W_prog_13_method_13_code_192 30 rfl rfl rfl) (fun H43 locs43 hZ43 hS43 => ?_)
  refine lv_iconst (v := iI 0) hx hb (D_3 W_prog_13_method_13_code_224 1 rfl rfl) rfl ?_
  refine lv_istore (lv' := [(7, .int (iI 0)), (6, va_rf (zrf ad 1 l6)), (4, .long (lI l4)), (2, .int (iI l2)), (0, .ref (ad 11 l0 0)), (1, .int (iI l1))]) hx hb (D_54 W_prog_13_method_13_code_224 2 rfl rfl) hl (by decide) (by cases zrf ad 1 l6 <;> rfl) (fun ls hl => ?_)
  exact b_Walker_makeEvent_228 X hf hZ43 hS43 (lv_sub hl [0, 1, 2, 4, 5] rfl)

def f_Walker_makeEvent_105 (K : zK) (l2 : Int) (l0 : Int) (F : zF) (B : zB) : zO := if 0 ≤ l0 ∧ l0 < K.2 11 then zbind (f_Walker_refuse K l0 8 l2 F B) (fun r31 F31 B31 => some (0, F31, B31)) else none
set_option maxHeartbeats 4000000 in
set_option maxRecDepth 100000 in
theorem b_Walker_makeEvent_105 {D : va_G} {ca : Nat → ClassId} {ad : Nat → Int → Nat → Nat} {L : List Nat} {aS vS : Nat → Nat} {A : Nat → Prop} {p : Program} {l : Launch} {e : Env} {s : State} {m : MethodId} {args : Array Value} {below : List Frame} {meth : Method} {c : Code} {K : zK} {r : Int} {F9 : zF} {B9 : zB} (X : zX D ca L aS vS A p s m args meth c prog_13_method_13_code 8 (Option.none : Option Jvm.ClassFile.FieldType) "StaveHouse$Walker") {l2 : Int} {l0 : Int} {F : zF} {B : zB} {H : Heap} {locs : List Loc} {ls : Array Slot} (hf : f_Walker_makeEvent_105 K l2 l0 F B = some (r, F9, B9)) (hZ : zH D ca ad lnC K.2 L F B A H) (hS : va_S A s.heap H locs) (hl : lv_has ls 8 [(2, .int (iI l2)), (0, .ref (ad 11 l0 0))]) : W p l e ({ frames := 3, cells := 0, slots := 0, locals := 68 } : Room) s m args below meth c H locs 0 0 (MQ below (Q_Walker_makeEvent K D ca ad L r F9 B9 A) args s 0 0 A) (F0 m 105 ls []) := by
  obtain ⟨hx, hb, hr, hml, hown, hts, hlk, hK, hA, hL, hX⟩ := id X
  replace hf : (if 0 ≤ l0 ∧ l0 < K.2 11 then zbind (f_Walker_refuse K l0 8 l2 F B) (fun r31 F31 B31 => some (0, F31, B31)) else none) = some (r, F9, B9) := hf
  refine lv_aload_n hx hb (D_42 W_prog_13_method_13_code_96 9 rfl rfl) rfl (lv_at hl 1 rfl) ?_
  refine lv_bipush (v := iI 8) hx hb (D_16 W_prog_13_method_13_code_96 10 rfl rfl rfl) (by decide) ?_
  refine lv_iload_n hx hb (D_28 W_prog_13_method_13_code_96 12 rfl rfl) rfl (lv_at hl 0 rfl) ?_
  obtain ⟨g30, hf⟩ := gif hf
  obtain ⟨r31, F31, B31, hc31, hf⟩ := gbind hf
  refine va_callv (va_runV (As := [.int (iI 8), .int (iI l2)]) (rest := []) ⟨hx, hb, hml, hown, hts⟩ (c_Walker_refuse (l := l) hc31) (cwV 2 hts (gdV k_4_204 k_4_206 ks_36 k_1_6 k_4_207) rfl rfl rfl (by decide +kernel) ⟨Nat.le_of_ble_eq_true rfl, Nat.le_of_ble_eq_true rfl⟩) (zPV X hZ hS (ci := 11) g30.1 g30.2 (r := (RX11, TX11, 19)) rfl [.int (iI 8), .int (iI l2)]) rfl rfl hl.1 rfl (lv_room (Nat.le_of_ble_eq_true rfl)) (D_182 W_prog_13_method_13_code_96 13 rfl rfl rfl) ⟨Nat.le_of_ble_eq_true rfl, Nat.le_of_ble_eq_true rfl⟩) hS (fun q _ h => zAin X hS q h) (zAin X hS) (fun u31 t31 H31 locs31 ht31 hv31 hw31 hB31 hz31 hk31 hS31 => ?_)
  have hZ31 := zBack X ht31 hB31
  cases hf
  exact W.vret hx hb hr (fun t ht hW => ⟨⟨(), rfl, trivial, by rw [ht]; exact hZ31, va_K.moved hW.alike hK⟩, hS31.F ht⟩) hS31.2.2 (D_177 W_prog_13_method_13_code_96 16 rfl rfl) hlk

def f_Walker_makeEvent_49 (K : zK) (l2 : Int) (l0 : Int) (F : zF) (B : zB) : zO := if 0 ≤ l0 ∧ l0 < K.2 11 then zbind (f_Walker_refuse K l0 12 l2 F B) (fun r29 F29 B29 => some (0, F29, B29)) else none
set_option maxHeartbeats 4000000 in
set_option maxRecDepth 100000 in
theorem b_Walker_makeEvent_49 {D : va_G} {ca : Nat → ClassId} {ad : Nat → Int → Nat → Nat} {L : List Nat} {aS vS : Nat → Nat} {A : Nat → Prop} {p : Program} {l : Launch} {e : Env} {s : State} {m : MethodId} {args : Array Value} {below : List Frame} {meth : Method} {c : Code} {K : zK} {r : Int} {F9 : zF} {B9 : zB} (X : zX D ca L aS vS A p s m args meth c prog_13_method_13_code 8 (Option.none : Option Jvm.ClassFile.FieldType) "StaveHouse$Walker") {l2 : Int} {l0 : Int} {F : zF} {B : zB} {H : Heap} {locs : List Loc} {ls : Array Slot} (hf : f_Walker_makeEvent_49 K l2 l0 F B = some (r, F9, B9)) (hZ : zH D ca ad lnC K.2 L F B A H) (hS : va_S A s.heap H locs) (hl : lv_has ls 8 [(2, .int (iI l2)), (0, .ref (ad 11 l0 0))]) : W p l e ({ frames := 3, cells := 0, slots := 0, locals := 68 } : Room) s m args below meth c H locs 0 0 (MQ below (Q_Walker_makeEvent K D ca ad L r F9 B9 A) args s 0 0 A) (F0 m 49 ls []) := by
  obtain ⟨hx, hb, hr, hml, hown, hts, hlk, hK, hA, hL, hX⟩ := id X
  replace hf : (if 0 ≤ l0 ∧ l0 < K.2 11 then zbind (f_Walker_refuse K l0 12 l2 F B) (fun r29 F29 B29 => some (0, F29, B29)) else none) = some (r, F9, B9) := hf
  refine lv_aload_n hx hb (D_42 W_prog_13_method_13_code_32 17 rfl rfl) rfl (lv_at hl 1 rfl) ?_
  refine lv_bipush (v := iI 12) hx hb (D_16 W_prog_13_method_13_code_32 18 rfl rfl rfl) (by decide) ?_
  refine lv_iload_n hx hb (D_28 W_prog_13_method_13_code_32 20 rfl rfl) rfl (lv_at hl 0 rfl) ?_
  obtain ⟨g28, hf⟩ := gif hf
  obtain ⟨r29, F29, B29, hc29, hf⟩ := gbind hf
  refine va_callv (va_runV (As := [.int (iI 12), .int (iI l2)]) (rest := []) ⟨hx, hb, hml, hown, hts⟩ (c_Walker_refuse (l := l) hc29) (cwV 2 hts (gdV k_4_204 k_4_206 ks_36 k_1_6 k_4_207) rfl rfl rfl (by decide +kernel) ⟨Nat.le_of_ble_eq_true rfl, Nat.le_of_ble_eq_true rfl⟩) (zPV X hZ hS (ci := 11) g28.1 g28.2 (r := (RX11, TX11, 19)) rfl [.int (iI 12), .int (iI l2)]) rfl rfl hl.1 rfl (lv_room (Nat.le_of_ble_eq_true rfl)) (D_182 W_prog_13_method_13_code_32 21 rfl rfl rfl) ⟨Nat.le_of_ble_eq_true rfl, Nat.le_of_ble_eq_true rfl⟩) hS (fun q _ h => zAin X hS q h) (zAin X hS) (fun u29 t29 H29 locs29 ht29 hv29 hw29 hB29 hz29 hk29 hS29 => ?_)
  have hZ29 := zBack X ht29 hB29
  cases hf
  exact W.vret hx hb hr (fun t ht hW => ⟨⟨(), rfl, trivial, by rw [ht]; exact hZ29, va_K.moved hW.alike hK⟩, hS29.F ht⟩) hS29.2.2 (D_177 W_prog_13_method_13_code_32 24 rfl rfl) hlk

def f_Walker_makeEvent_35 (K : zK) (l2 : Int) (l0 : Int) (l1 : Int) (s0 : Int) (F : zF) (B : zB) : zO := if r32 s0 then (if s0 = (-1) then f_Walker_makeEvent_49 K l2 l0 F B else if 0 ≤ l0 ∧ l0 < K.2 11 then if r32 (F 11 l0 9) then (if 1 ≤ (F 11 l0 9) then if ¬ lI (F 11 l0 9) = 0 then if r32 (F 11 l0 10) then if 0 ≤ (F 11 l0 1) ∧ (F 11 l0 1) < K.2 4 then if r32 (F 4 (F 11 l0 1) 6) then (if 200 ≤ (F 4 (F 11 l0 1) 6) then f_Walker_makeEvent_105 K l2 l0 F B else if r64 ((F 11 l0 11) + ((zldv (6350400 * s0) (F 11 l0 9)) * (F 11 l0 10))) then if r64 (F 11 l0 12) then (if (zcmp ((F 11 l0 11) + ((zldv (6350400 * s0) (F 11 l0 9)) * (F 11 l0 10))) (F 11 l0 12)) ≤ 0 then if 0 ≤ (F 4 (F 11 l0 1) 6) ∧ (F 4 (F 11 l0 1) 6) < 200 then if 0 ≤ (B 4 (F 11 l0 1) 5 (F 4 (F 11 l0 1) 6)) ∧ (B 4 (F 11 l0 1) 5 (F 4 (F 11 l0 1) 6)) < K.2 1 then if r32 (F 11 l0 6) then (if (F 11 l0 6) = 0 then f_Walker_makeEvent_178 K (B 4 (F 11 l0 1) 5 (F 4 (F 11 l0 1) 6)) ((zldv (6350400 * s0) (F 11 l0 9)) * (F 11 l0 10)) l2 l0 l1 (B 4 (F 11 l0 1) 5 (F 4 (F 11 l0 1) 6)) 0 (zup3 (zup3 (zup3 (zup3 F 1 (B 4 (F 11 l0 1) 5 (F 4 (F 11 l0 1) 6)) 1 ((zldv (6350400 * s0) (F 11 l0 9)) * (F 11 l0 10))) 1 (B 4 (F 11 l0 1) 5 (F 4 (F 11 l0 1) 6)) 2 s0) 1 (B 4 (F 11 l0 1) 5 (F 4 (F 11 l0 1) 6)) 3 (F 11 l0 9)) 1 (B 4 (F 11 l0 1) 5 (F 4 (F 11 l0 1) 6)) 4 (F 11 l0 10)) B else f_Walker_makeEvent_178 K (B 4 (F 11 l0 1) 5 (F 4 (F 11 l0 1) 6)) ((zldv (6350400 * s0) (F 11 l0 9)) * (F 11 l0 10)) l2 l0 l1 (B 4 (F 11 l0 1) 5 (F 4 (F 11 l0 1) 6)) (F 11 l0 7) (zup3 (zup3 (zup3 (zup3 F 1 (B 4 (F 11 l0 1) 5 (F 4 (F 11 l0 1) 6)) 1 ((zldv (6350400 * s0) (F 11 l0 9)) * (F 11 l0 10))) 1 (B 4 (F 11 l0 1) 5 (F 4 (F 11 l0 1) 6)) 2 s0) 1 (B 4 (F 11 l0 1) 5 (F 4 (F 11 l0 1) 6)) 3 (F 11 l0 9)) 1 (B 4 (F 11 l0 1) 5 (F 4 (F 11 l0 1) 6)) 4 (F 11 l0 10)) B) else none else none else none else f_Walker_makeEvent_105 K l2 l0 F B) else none else none) else none else none else none else none else f_Walker_makeEvent_49 K l2 l0 F B) else none else none) else none
set_option maxHeartbeats 4000000 in
set_option maxRecDepth 100000 in
theorem b_Walker_makeEvent_35 {D : va_G} {ca : Nat → ClassId} {ad : Nat → Int → Nat → Nat} {L : List Nat} {aS vS : Nat → Nat} {A : Nat → Prop} {p : Program} {l : Launch} {e : Env} {s : State} {m : MethodId} {args : Array Value} {below : List Frame} {meth : Method} {c : Code} {K : zK} {r : Int} {F9 : zF} {B9 : zB} (X : zX D ca L aS vS A p s m args meth c prog_13_method_13_code 8 (Option.none : Option Jvm.ClassFile.FieldType) "StaveHouse$Walker") {l2 : Int} {l0 : Int} {l1 : Int} {s0 : Int} {F : zF} {B : zB} {H : Heap} {locs : List Loc} {ls : Array Slot} (hf : f_Walker_makeEvent_35 K l2 l0 l1 s0 F B = some (r, F9, B9)) (hZ : zH D ca ad lnC K.2 L F B A H) (hS : va_S A s.heap H locs) (hl : lv_has ls 8 [(2, .int (iI l2)), (0, .ref (ad 11 l0 0)), (1, .int (iI l1))]) : W p l e ({ frames := 3, cells := 0, slots := 0, locals := 68 } : Room) s m args below meth c H locs 0 0 (MQ below (Q_Walker_makeEvent K D ca ad L r F9 B9 A) args s 0 0 A) (F0 m 35 ls [.int (iI s0)]) := by
  obtain ⟨hx, hb, hr, hml, hown, hts, hlk, hK, hA, hL, hX⟩ := id X
  replace hf : (if r32 s0 then (if s0 = (-1) then f_Walker_makeEvent_49 K l2 l0 F B else if 0 ≤ l0 ∧ l0 < K.2 11 then if r32 (F 11 l0 9) then (if 1 ≤ (F 11 l0 9) then if ¬ lI (F 11 l0 9) = 0 then if r32 (F 11 l0 10) then if 0 ≤ (F 11 l0 1) ∧ (F 11 l0 1) < K.2 4 then if r32 (F 4 (F 11 l0 1) 6) then (if 200 ≤ (F 4 (F 11 l0 1) 6) then f_Walker_makeEvent_105 K l2 l0 F B else if r64 ((F 11 l0 11) + ((zldv (6350400 * s0) (F 11 l0 9)) * (F 11 l0 10))) then if r64 (F 11 l0 12) then (if (zcmp ((F 11 l0 11) + ((zldv (6350400 * s0) (F 11 l0 9)) * (F 11 l0 10))) (F 11 l0 12)) ≤ 0 then if 0 ≤ (F 4 (F 11 l0 1) 6) ∧ (F 4 (F 11 l0 1) 6) < 200 then if 0 ≤ (B 4 (F 11 l0 1) 5 (F 4 (F 11 l0 1) 6)) ∧ (B 4 (F 11 l0 1) 5 (F 4 (F 11 l0 1) 6)) < K.2 1 then if r32 (F 11 l0 6) then (if (F 11 l0 6) = 0 then f_Walker_makeEvent_178 K (B 4 (F 11 l0 1) 5 (F 4 (F 11 l0 1) 6)) ((zldv (6350400 * s0) (F 11 l0 9)) * (F 11 l0 10)) l2 l0 l1 (B 4 (F 11 l0 1) 5 (F 4 (F 11 l0 1) 6)) 0 (zup3 (zup3 (zup3 (zup3 F 1 (B 4 (F 11 l0 1) 5 (F 4 (F 11 l0 1) 6)) 1 ((zldv (6350400 * s0) (F 11 l0 9)) * (F 11 l0 10))) 1 (B 4 (F 11 l0 1) 5 (F 4 (F 11 l0 1) 6)) 2 s0) 1 (B 4 (F 11 l0 1) 5 (F 4 (F 11 l0 1) 6)) 3 (F 11 l0 9)) 1 (B 4 (F 11 l0 1) 5 (F 4 (F 11 l0 1) 6)) 4 (F 11 l0 10)) B else f_Walker_makeEvent_178 K (B 4 (F 11 l0 1) 5 (F 4 (F 11 l0 1) 6)) ((zldv (6350400 * s0) (F 11 l0 9)) * (F 11 l0 10)) l2 l0 l1 (B 4 (F 11 l0 1) 5 (F 4 (F 11 l0 1) 6)) (F 11 l0 7) (zup3 (zup3 (zup3 (zup3 F 1 (B 4 (F 11 l0 1) 5 (F 4 (F 11 l0 1) 6)) 1 ((zldv (6350400 * s0) (F 11 l0 9)) * (F 11 l0 10))) 1 (B 4 (F 11 l0 1) 5 (F 4 (F 11 l0 1) 6)) 2 s0) 1 (B 4 (F 11 l0 1) 5 (F 4 (F 11 l0 1) 6)) 3 (F 11 l0 9)) 1 (B 4 (F 11 l0 1) 5 (F 4 (F 11 l0 1) 6)) 4 (F 11 l0 10)) B) else none else none else none else f_Walker_makeEvent_105 K l2 l0 F B) else none else none) else none else none else none else none else f_Walker_makeEvent_49 K l2 l0 F B) else none else none) else none) = some (r, F9, B9) := hf
  refine lv_istore_n (lv' := [(3, .int (iI s0)), (2, .int (iI l2)), (0, .ref (ad 11 l0 0)), (1, .int (iI l1))]) hx hb (D_62 W_prog_13_method_13_code_32 3 rfl rfl) rfl hl (by decide) rfl (fun ls hl => ?_)
  refine lv_iload_n hx hb (D_29 W_prog_13_method_13_code_32 4 rfl rfl) rfl (lv_at hl 0 rfl) ?_
  refine lv_iconst (v := iI (-1)) hx hb (D_2 W_prog_13_method_13_code_32 5 rfl rfl) rfl ?_
  obtain ⟨g7, hf⟩ := gif hf
  refine zeq (tgt := 49) hx hb g7 (by decide) (D_159 W_prog_13_method_13_code_32 6 rfl rfl rfl) (by decide) (fun h8 => ?_) (fun h8 => ?_)
  · replace hf := gpos hf h8
    exact b_Walker_makeEvent_49 X hf hZ hS (lv_sub hl [1, 2] rfl)
  · replace hf := gneg hf h8
    refine lv_aload_n hx hb (D_42 W_prog_13_method_13_code_32 9 rfl rfl) rfl (lv_at hl 2 rfl) ?_
    obtain ⟨g9, hf⟩ := gif hf
    refine zget (ci := 11) (C := RX11) (T := TX11) (v := .int (iI (F 11 l0 9))) (k := 9) hx hb hts inW_11 hown hK hZ g9.1 g9.2 rfl (by decide) k_1_199 rfl (D_180 W_prog_13_method_13_code_32 10 rfl rfl rfl) ?_
    refine lv_iconst (v := iI 1) hx hb (D_4 W_prog_13_method_13_code_32 13 rfl rfl) rfl ?_
    obtain ⟨g10, hf⟩ := gif hf
    refine zge (tgt := 57) hx hb g10 (by decide) (D_162 W_prog_13_method_13_code_32 14 rfl rfl rfl) (by decide) (fun h11 => ?_) (fun h11 => ?_)
    · replace hf := gpos hf h11
      refine lv_ldc2 hx hb hown (hts _ k_4_222) (D_20 W_prog_13_method_13_code_32 25 rfl rfl rfl) ?_
      refine W.eq (g2 := F0 m 60 ls [.long (lI 6350400)]) rfl ?_
      refine lv_iload_n hx hb (D_29 W_prog_13_method_13_code_32 28 rfl rfl) rfl (lv_at hl 0 rfl) ?_
      refine zi2l hx hb g7 (D_133 W_prog_13_method_13_code_32 29 rfl rfl) ?_
      refine zlmul hx hb (D_105 W_prog_13_method_13_code_32 30 rfl rfl) ?_
      refine lv_aload_n hx hb (D_42 W_prog_13_method_13_code_32 31 rfl rfl) rfl (lv_at hl 2 rfl) ?_
      refine zget (ci := 11) (C := RX11) (T := TX11) (v := .int (iI (F 11 l0 9))) (k := 9) hx hb hts inW_11 hown hK hZ g9.1 g9.2 rfl (by decide) k_1_199 rfl (D_180 W_prog_13_method_13_code_64 0 rfl rfl rfl) ?_
      refine zi2l hx hb g10 (D_133 W_prog_13_method_13_code_64 3 rfl rfl) ?_
      obtain ⟨g12, hf⟩ := gif hf
      refine zldv_r hx hb g12 (D_109 W_prog_13_method_13_code_64 4 rfl rfl) ?_
      refine lv_aload_n hx hb (D_42 W_prog_13_method_13_code_64 5 rfl rfl) rfl (lv_at hl 2 rfl) ?_
      refine zget (ci := 11) (C := RX11) (T := TX11) (v := .int (iI (F 11 l0 10))) (k := 10) hx hb hts inW_11 hown hK hZ g9.1 g9.2 rfl (by decide) k_1_200 rfl (D_180 W_prog_13_method_13_code_64 6 rfl rfl rfl) ?_
      obtain ⟨g13, hf⟩ := gif hf
      refine zi2l hx hb g13 (D_133 W_prog_13_method_13_code_64 9 rfl rfl) ?_
      refine zlmul hx hb (D_105 W_prog_13_method_13_code_64 10 rfl rfl) ?_
      refine lv_lstore (lv' := [(4, .long (lI ((zldv (6350400 * s0) (F 11 l0 9)) * (F 11 l0 10)))), (3, .int (iI s0)), (2, .int (iI l2)), (0, .ref (ad 11 l0 0)), (1, .int (iI l1))]) hx hb (D_55 W_prog_13_method_13_code_64 11 rfl rfl) hl (by decide) rfl (fun ls hl => ?_)
      refine lv_aload_n hx hb (D_42 W_prog_13_method_13_code_64 13 rfl rfl) rfl (lv_at hl 3 rfl) ?_
      refine zget (ci := 11) (C := RX11) (T := TX11) (v := va_rf (zrf ad 4 (F 11 l0 1))) (k := 1) hx hb hts inW_11 hown hK hZ g9.1 g9.2 rfl (by decide) k_1_191 rfl (D_180 W_prog_13_method_13_code_64 14 rfl rfl rfl) ?_
      obtain ⟨g14, hf⟩ := gif hf
      refine zunrf g14.1 ?_
      refine zget (ci := 4) (C := RX4) (T := TX4) (v := .int (iI (F 4 (F 11 l0 1) 6))) (k := 6) hx hb hts inW_4 hown hK hZ g14.1 g14.2 rfl (by decide) k_4_139 rfl (D_180 W_prog_13_method_13_code_64 17 rfl rfl rfl) ?_
      refine lv_sipush (v := iI 200) hx hb (D_17 W_prog_13_method_13_code_64 20 rfl rfl rfl) (by decide) ?_
      obtain ⟨g15, hf⟩ := gif hf
      refine zge (tgt := 105) hx hb g15 (by decide) (D_162 W_prog_13_method_13_code_64 23 rfl rfl rfl) (by decide) (fun h16 => ?_) (fun h16 => ?_)
      · replace hf := gpos hf h16
        exact b_Walker_makeEvent_105 X hf hZ hS (lv_sub hl [2, 3] rfl)
      · replace hf := gneg hf h16
        refine lv_aload_n hx hb (D_42 W_prog_13_method_13_code_64 26 rfl rfl) rfl (lv_at hl 3 rfl) ?_
        refine zget (ci := 11) (C := RX11) (T := TX11) (v := .long (lI (F 11 l0 11))) (k := 11) hx hb hts inW_11 hown hK hZ g9.1 g9.2 rfl (by decide) k_1_201 rfl (D_180 W_prog_13_method_13_code_64 27 rfl rfl rfl) ?_
        refine lv_lload hx hb (D_22 W_prog_13_method_13_code_64 30 rfl rfl) (lv_at hl 0 rfl) ?_
        refine zladd hx hb (D_97 W_prog_13_method_13_code_96 0 rfl rfl) ?_
        refine lv_aload_n hx hb (D_42 W_prog_13_method_13_code_96 1 rfl rfl) rfl (lv_at hl 3 rfl) ?_
        refine zget (ci := 11) (C := RX11) (T := TX11) (v := .long (lI (F 11 l0 12))) (k := 12) hx hb hts inW_11 hown hK hZ g9.1 g9.2 rfl (by decide) k_1_202 rfl (D_180 W_prog_13_method_13_code_96 2 rfl rfl rfl) ?_
        obtain ⟨g17, hf⟩ := gif hf
        obtain ⟨g18, hf⟩ := gif hf
        refine zcmp_r hx hb g17 g18 (D_148 W_prog_13_method_13_code_96 5 rfl rfl) ?_
        refine z0le (tgt := 113) hx hb zcmp_32 (D_158 W_prog_13_method_13_code_96 6 rfl rfl rfl) (by decide) (fun h19 => ?_) (fun h19 => ?_)
        · replace hf := gpos hf h19
          refine lv_aload_n hx hb (D_42 W_prog_13_method_13_code_96 17 rfl rfl) rfl (lv_at hl 3 rfl) ?_
          refine zget (ci := 11) (C := RX11) (T := TX11) (v := va_rf (zrf ad 4 (F 11 l0 1))) (k := 1) hx hb hts inW_11 hown hK hZ g9.1 g9.2 rfl (by decide) k_1_191 rfl (D_180 W_prog_13_method_13_code_96 18 rfl rfl rfl) ?_
          refine zunrf g14.1 ?_
          refine zget (ci := 4) (C := RX4) (T := TX4) (v := .ref (ad 4 (F 11 l0 1) (5 + 1))) (k := 5) hx hb hts inW_4 hown hK hZ g14.1 g14.2 rfl (by decide) k_4_134 rfl (D_180 W_prog_13_method_13_code_96 21 rfl rfl rfl) ?_
          refine lv_aload_n hx hb (D_42 W_prog_13_method_13_code_96 24 rfl rfl) rfl (lv_at hl 3 rfl) ?_
          refine zget (ci := 11) (C := RX11) (T := TX11) (v := va_rf (zrf ad 4 (F 11 l0 1))) (k := 1) hx hb hts inW_11 hown hK hZ g9.1 g9.2 rfl (by decide) k_1_191 rfl (D_180 W_prog_13_method_13_code_96 25 rfl rfl rfl) ?_
          refine zunrf g14.1 ?_
          refine zget (ci := 4) (C := RX4) (T := TX4) (v := .int (iI (F 4 (F 11 l0 1) 6))) (k := 6) hx hb hts inW_4 hown hK hZ g14.1 g14.2 rfl (by decide) k_4_139 rfl (D_180 W_prog_13_method_13_code_96 28 rfl rfl rfl) ?_
          obtain ⟨g20, hf⟩ := gif hf
          refine zaldR (t := 1) (x := 7) (ci := 4) (k := 5) hx hb hK rfl rfl hZ g14.1 g14.2 rfl (Nat.le_of_ble_eq_true rfl) g20.1 g20.2 (D_50 W_prog_13_method_13_code_96 31 rfl rfl) ?_
          refine zastore (lv' := [(4, .long (lI ((zldv (6350400 * s0) (F 11 l0 9)) * (F 11 l0 10)))), (3, .int (iI s0)), (2, .int (iI l2)), (0, .ref (ad 11 l0 0)), (1, .int (iI l1))]) hx hb (D_58 W_prog_13_method_13_code_128 0 rfl rfl) hl (by decide) (fun _ _ => rfl) (fun ls hl => ?_)
          refine zaload hx hb (D_25 W_prog_13_method_13_code_128 2 rfl rfl) (lv_at hl 0 rfl) ?_
          refine lv_lload hx hb (D_22 W_prog_13_method_13_code_128 4 rfl rfl) (lv_at hl 1 rfl) ?_
          obtain ⟨g21, hf⟩ := gif hf
          refine W.eq (g2 := F0 m 134 ls [.long (lI ((zldv (6350400 * s0) (F 11 l0 9)) * (F 11 l0 10))), .ref (ad 1 (B 4 (F 11 l0 1) 5 (F 4 (F 11 l0 1) 6)) 0)]) (by rw [zrf_pos (ad := ad) (t := 1) g21.1]; try rfl) ?_
          refine zput (ci := 1) (C := RX1) (T := TX1) (k := 1) (v := ((zldv (6350400 * s0) (F 11 l0 9)) * (F 11 l0 10))) (w := .long (lI ((zldv (6350400 * s0) (F 11 l0 9)) * (F 11 l0 10)))) hx hb hts inW_1 tyX1 tyX1_ok nmX1 hown hK hZ hS g21.1 g21.2 rfl (by decide) k_2_27 rfl (fun G h => congrArg (fun q => Value.long (lI q)) h) rfl rfl (zno (by decide)) (D_181 W_prog_13_method_13_code_128 6 rfl rfl rfl) (fun H22 locs22 hZ22 hS22 => ?_)
          refine zaload hx hb (D_25 W_prog_13_method_13_code_128 9 rfl rfl) (lv_at hl 0 rfl) ?_
          refine lv_iload_n hx hb (D_29 W_prog_13_method_13_code_128 11 rfl rfl) rfl (lv_at hl 2 rfl) ?_
          refine W.eq (g2 := F0 m 140 ls [.int (iI s0), .ref (ad 1 (B 4 (F 11 l0 1) 5 (F 4 (F 11 l0 1) 6)) 0)]) (by rw [zrf_pos (ad := ad) (t := 1) g21.1]; try rfl) ?_
          refine zput (ci := 1) (C := RX1) (T := TX1) (k := 2) (v := s0) (w := .int (iI s0)) hx hb hts inW_1 tyX1 tyX1_ok nmX1 hown hK hZ22 hS22 g21.1 g21.2 rfl (by decide) k_2_29 rfl (fun G h => congrArg (fun q => Value.int (iI q)) h) rfl rfl (zno (by decide)) (D_181 W_prog_13_method_13_code_128 12 rfl rfl rfl) (fun H23 locs23 hZ23 hS23 => ?_)
          refine zaload hx hb (D_25 W_prog_13_method_13_code_128 15 rfl rfl) (lv_at hl 0 rfl) ?_
          refine lv_aload_n hx hb (D_42 W_prog_13_method_13_code_128 17 rfl rfl) rfl (lv_at hl 4 rfl) ?_
          refine zget (ci := 11) (C := RX11) (T := TX11) (v := .int (iI (F 11 l0 9))) (k := 9) hx hb hts inW_11 hown hK hZ23 g9.1 g9.2 rfl (by decide) k_1_199 (congrArg (fun q : Int => Value.int (iI q)) (show (zup3 (zup3 F 1 (B 4 (F 11 l0 1) 5 (F 4 (F 11 l0 1) 6)) 1 ((zldv (6350400 * s0) (F 11 l0 9)) * (F 11 l0 10))) 1 (B 4 (F 11 l0 1) 5 (F 4 (F 11 l0 1) 6)) 2 s0) 11 l0 9 = F 11 l0 9 by simp [zup3])) (D_180 W_prog_13_method_13_code_128 18 rfl rfl rfl) ?_
          refine W.eq (g2 := F0 m 149 ls [.int (iI (F 11 l0 9)), .ref (ad 1 (B 4 (F 11 l0 1) 5 (F 4 (F 11 l0 1) 6)) 0)]) (by rw [zrf_pos (ad := ad) (t := 1) g21.1]; try rfl) ?_
          refine zput (ci := 1) (C := RX1) (T := TX1) (k := 3) (v := (F 11 l0 9)) (w := .int (iI (F 11 l0 9))) hx hb hts inW_1 tyX1 tyX1_ok nmX1 hown hK hZ23 hS23 g21.1 g21.2 rfl (by decide) k_2_31 rfl (fun G h => congrArg (fun q => Value.int (iI q)) h) rfl rfl (zno (by decide)) (D_181 W_prog_13_method_13_code_128 21 rfl rfl rfl) (fun H24 locs24 hZ24 hS24 => ?_)
          refine zaload hx hb (D_25 W_prog_13_method_13_code_128 24 rfl rfl) (lv_at hl 0 rfl) ?_
          refine lv_aload_n hx hb (D_42 W_prog_13_method_13_code_128 26 rfl rfl) rfl (lv_at hl 4 rfl) ?_
          refine zget (ci := 11) (C := RX11) (T := TX11) (v := .int (iI (F 11 l0 10))) (k := 10) hx hb hts inW_11 hown hK hZ24 g9.1 g9.2 rfl (by decide) k_1_200 (congrArg (fun q : Int => Value.int (iI q)) (show (zup3 (zup3 (zup3 F 1 (B 4 (F 11 l0 1) 5 (F 4 (F 11 l0 1) 6)) 1 ((zldv (6350400 * s0) (F 11 l0 9)) * (F 11 l0 10))) 1 (B 4 (F 11 l0 1) 5 (F 4 (F 11 l0 1) 6)) 2 s0) 1 (B 4 (F 11 l0 1) 5 (F 4 (F 11 l0 1) 6)) 3 (F 11 l0 9)) 11 l0 10 = F 11 l0 10 by simp [zup3])) (D_180 W_prog_13_method_13_code_128 27 rfl rfl rfl) ?_
          refine W.eq (g2 := F0 m 158 ls [.int (iI (F 11 l0 10)), .ref (ad 1 (B 4 (F 11 l0 1) 5 (F 4 (F 11 l0 1) 6)) 0)]) (by rw [zrf_pos (ad := ad) (t := 1) g21.1]; try rfl) ?_
          refine zput (ci := 1) (C := RX1) (T := TX1) (k := 4) (v := (F 11 l0 10)) (w := .int (iI (F 11 l0 10))) hx hb hts inW_1 tyX1 tyX1_ok nmX1 hown hK hZ24 hS24 g21.1 g21.2 rfl (by decide) k_2_33 rfl (fun G h => congrArg (fun q => Value.int (iI q)) h) rfl rfl (zno (by decide)) (D_181 W_prog_13_method_13_code_128 30 rfl rfl rfl) (fun H25 locs25 hZ25 hS25 => ?_)
          refine zaload hx hb (D_25 W_prog_13_method_13_code_160 1 rfl rfl) (lv_at hl 0 rfl) ?_
          refine lv_aload_n hx hb (D_42 W_prog_13_method_13_code_160 3 rfl rfl) rfl (lv_at hl 4 rfl) ?_
          refine zget (ci := 11) (C := RX11) (T := TX11) (v := .int (iI (F 11 l0 6))) (k := 6) hx hb hts inW_11 hown hK hZ25 g9.1 g9.2 rfl (by decide) k_1_196 (congrArg (fun q : Int => Value.int (iI q)) (show (zup3 (zup3 (zup3 (zup3 F 1 (B 4 (F 11 l0 1) 5 (F 4 (F 11 l0 1) 6)) 1 ((zldv (6350400 * s0) (F 11 l0 9)) * (F 11 l0 10))) 1 (B 4 (F 11 l0 1) 5 (F 4 (F 11 l0 1) 6)) 2 s0) 1 (B 4 (F 11 l0 1) 5 (F 4 (F 11 l0 1) 6)) 3 (F 11 l0 9)) 1 (B 4 (F 11 l0 1) 5 (F 4 (F 11 l0 1) 6)) 4 (F 11 l0 10)) 11 l0 6 = F 11 l0 6 by simp [zup3])) (D_180 W_prog_13_method_13_code_160 4 rfl rfl rfl) ?_
          obtain ⟨g26, hf⟩ := gif hf
          refine z0ne (tgt := 174) hx hb g26 (D_154 W_prog_13_method_13_code_160 7 rfl rfl rfl) (by decide) (fun h27 => ?_) (fun h27 => ?_)
          · replace hf := gneg hf h27
            refine lv_aload_n hx hb (D_42 W_prog_13_method_13_code_160 14 rfl rfl) rfl (lv_at hl 4 rfl) ?_
            refine zget (ci := 11) (C := RX11) (T := TX11) (v := .int (iI (F 11 l0 7))) (k := 7) hx hb hts inW_11 hown hK hZ25 g9.1 g9.2 rfl (by decide) k_1_197 (congrArg (fun q : Int => Value.int (iI q)) (show (zup3 (zup3 (zup3 (zup3 F 1 (B 4 (F 11 l0 1) 5 (F 4 (F 11 l0 1) 6)) 1 ((zldv (6350400 * s0) (F 11 l0 9)) * (F 11 l0 10))) 1 (B 4 (F 11 l0 1) 5 (F 4 (F 11 l0 1) 6)) 2 s0) 1 (B 4 (F 11 l0 1) 5 (F 4 (F 11 l0 1) 6)) 3 (F 11 l0 9)) 1 (B 4 (F 11 l0 1) 5 (F 4 (F 11 l0 1) 6)) 4 (F 11 l0 10)) 11 l0 7 = F 11 l0 7 by simp [zup3])) (D_180 W_prog_13_method_13_code_160 15 rfl rfl rfl) ?_
            exact b_Walker_makeEvent_178 X hf hZ25 hS25 (lv_sub hl [0, 1, 3, 4, 5] rfl)
          · replace hf := gpos hf h27
            refine lv_iconst (v := iI 0) hx hb (D_3 W_prog_13_method_13_code_160 10 rfl rfl) rfl ?_
            refine lv_goto (tgt := 178) hx hb (D_167 W_prog_13_method_13_code_160 11 rfl rfl rfl) (by decide) ?_
            exact b_Walker_makeEvent_178 X hf hZ25 hS25 (lv_sub hl [0, 1, 3, 4, 5] rfl)
        · replace hf := gneg hf h19
          exact b_Walker_makeEvent_105 X hf hZ hS (lv_sub hl [2, 3] rfl)
    · replace hf := gneg hf h11
      exact b_Walker_makeEvent_49 X hf hZ hS (lv_sub hl [1, 2] rfl)

def f_Walker_makeEvent (K : zK) (l0 : Int) (l1 : Int) (F : zF) (B : zB) : zO := if 0 ≤ l0 ∧ l0 < K.2 11 then if 0 ≤ (F 11 l0 0) ∧ (F 11 l0 0) < K.2 3 then if 0 ≤ l1 ∧ l1 < 3000 then if r32 (F 11 l0 6) then (if (F 11 l0 6) ≤ 2 then zbind (f_Walker_slowed K l0 (B 3 (F 11 l0 0) 2 l1) F B) (fun r6 F6 B6 => f_Walker_makeEvent_35 K (B 3 (F 11 l0 0) 1 l1) l0 l1 r6 F6 B6) else f_Walker_makeEvent_35 K (B 3 (F 11 l0 0) 1 l1) l0 l1 (-1) F B) else none else none else none else none
set_option maxHeartbeats 4000000 in
set_option maxRecDepth 100000 in
theorem c_Walker_makeEvent {l : Launch} {D : va_G} {ca : Nat → ClassId} {ad : Nat → Int → Nat → Nat} {L : List Nat} {aS vS : Nat → Nat} {sz : Nat} {K : zK}  {l0 : Int} {l1 : Int} {F F9 : zF} {B B9 : zB} {r : Int} (hf : f_Walker_makeEvent K l0 l1 F B = some (r, F9, B9)) : Met l ({ cls := "StaveHouse$Walker", name := "makeEvent", desc := "(I)V" } : Jvm.MethodName) (Cond.code ({ cls := "StaveHouse$Walker", name := "makeEvent", desc := "(I)V" } : Jvm.MethodName) prog_13_method_13_code 8 (Option.none : Option Jvm.ClassFile.FieldType) :: wAll) ({ frames := 3, cells := 0, slots := 0, locals := 68 } : Room) (va_Pc [.ref (ad 11 l0 0), .int (iI l1)] (zPre D ca ad lnC K.2 L aS vS F B sz)) (Q_Walker_makeEvent K D ca ad L r F9 B9 (zA L sz)) 0 0 (zA L sz) := by
  refine zMet (Qc := Q_Walker_makeEvent K D ca ad L r F9 B9) (lv := [(0, .ref (ad 11 l0 0)), (1, .int (iI l1))]) (by decide) (Nat.le_of_ble_eq_true rfl) rfl (fun A p e s m below meth c ls X hZ hS hl => ?_)
  obtain ⟨hx, hb, hr, hml, hown, hts, hlk, hK, hA, hL, hX⟩ := id X
  replace hf : (if 0 ≤ l0 ∧ l0 < K.2 11 then if 0 ≤ (F 11 l0 0) ∧ (F 11 l0 0) < K.2 3 then if 0 ≤ l1 ∧ l1 < 3000 then if r32 (F 11 l0 6) then (if (F 11 l0 6) ≤ 2 then zbind (f_Walker_slowed K l0 (B 3 (F 11 l0 0) 2 l1) F B) (fun r6 F6 B6 => f_Walker_makeEvent_35 K (B 3 (F 11 l0 0) 1 l1) l0 l1 r6 F6 B6) else f_Walker_makeEvent_35 K (B 3 (F 11 l0 0) 1 l1) l0 l1 (-1) F B) else none else none else none else none) = some (r, F9, B9) := hf
  refine lv_aload_n hx hb (D_42 W_prog_13_method_13_code_0 0 rfl rfl) rfl (lv_at hl 0 rfl) ?_
  obtain ⟨g1, hf⟩ := gif hf
  refine zget (ci := 11) (C := RX11) (T := TX11) (v := va_rf (zrf ad 3 (F 11 l0 0))) (k := 0) hx hb hts inW_11 hown hK hZ g1.1 g1.2 rfl (by decide) k_1_190 rfl (D_180 W_prog_13_method_13_code_0 1 rfl rfl rfl) ?_
  obtain ⟨g2, hf⟩ := gif hf
  refine zunrf g2.1 ?_
  refine zget (ci := 3) (C := RX3) (T := TX3) (v := .ref (ad 3 (F 11 l0 0) (1 + 1))) (k := 1) hx hb hts inW_3 hown hK hZ g2.1 g2.2 rfl (by decide) k_1_109 rfl (D_180 W_prog_13_method_13_code_0 4 rfl rfl rfl) ?_
  refine lv_iload_n hx hb (D_27 W_prog_13_method_13_code_0 7 rfl rfl) rfl (lv_at hl 1 rfl) ?_
  obtain ⟨g3, hf⟩ := gif hf
  refine zald (ci := 3) (k := 1) hx hb hK rfl hZ g2.1 g2.2 rfl (Nat.le_of_ble_eq_true rfl) g3.1 g3.2 (D_46 W_prog_13_method_13_code_0 8 rfl rfl) ?_
  refine lv_istore_n (lv' := [(2, .int (iI (B 3 (F 11 l0 0) 1 l1))), (0, .ref (ad 11 l0 0)), (1, .int (iI l1))]) hx hb (D_61 W_prog_13_method_13_code_0 9 rfl rfl) rfl hl (by decide) rfl (fun ls hl => ?_)
  refine lv_aload_n hx hb (D_42 W_prog_13_method_13_code_0 10 rfl rfl) rfl (lv_at hl 1 rfl) ?_
  refine zget (ci := 11) (C := RX11) (T := TX11) (v := .int (iI (F 11 l0 6))) (k := 6) hx hb hts inW_11 hown hK hZ g1.1 g1.2 rfl (by decide) k_1_196 rfl (D_180 W_prog_13_method_13_code_0 11 rfl rfl rfl) ?_
  refine lv_iconst (v := iI 2) hx hb (D_5 W_prog_13_method_13_code_0 14 rfl rfl) rfl ?_
  obtain ⟨g4, hf⟩ := gif hf
  refine zle (tgt := 22) hx hb g4 (by decide) (D_164 W_prog_13_method_13_code_0 15 rfl rfl rfl) (by decide) (fun h5 => ?_) (fun h5 => ?_)
  · replace hf := gpos hf h5
    refine lv_aload_n hx hb (D_42 W_prog_13_method_13_code_0 22 rfl rfl) rfl (lv_at hl 1 rfl) ?_
    refine lv_aload_n hx hb (D_42 W_prog_13_method_13_code_0 23 rfl rfl) rfl (lv_at hl 1 rfl) ?_
    refine zget (ci := 11) (C := RX11) (T := TX11) (v := va_rf (zrf ad 3 (F 11 l0 0))) (k := 0) hx hb hts inW_11 hown hK hZ g1.1 g1.2 rfl (by decide) k_1_190 rfl (D_180 W_prog_13_method_13_code_0 24 rfl rfl rfl) ?_
    refine zunrf g2.1 ?_
    refine zget (ci := 3) (C := RX3) (T := TX3) (v := .ref (ad 3 (F 11 l0 0) (2 + 1))) (k := 2) hx hb hts inW_3 hown hK hZ g2.1 g2.2 rfl (by decide) k_1_111 rfl (D_180 W_prog_13_method_13_code_0 27 rfl rfl rfl) ?_
    refine lv_iload_n hx hb (D_27 W_prog_13_method_13_code_0 30 rfl rfl) rfl (lv_at hl 2 rfl) ?_
    refine zald (ci := 3) (k := 2) hx hb hK rfl hZ g2.1 g2.2 rfl (Nat.le_of_ble_eq_true rfl) g3.1 g3.2 (D_46 W_prog_13_method_13_code_0 31 rfl rfl) ?_
    obtain ⟨r6, F6, B6, hc6, hf⟩ := gbind hf
    refine va_calli (va_runV (As := [.int (iI (B 3 (F 11 l0 0) 2 l1))]) (rest := []) ⟨hx, hb, hml, hown, hts⟩ (c_Walker_slowed (l := l) hc6) (cwV 1 hts (gdV k_4_216 k_4_218 ks_39 k_1_6 k_4_219) rfl rfl rfl (by decide +kernel) ⟨Nat.le_of_ble_eq_true rfl, Nat.le_of_ble_eq_true rfl⟩) (zPV X hZ hS (ci := 11) g1.1 g1.2 (r := (RX11, TX11, 19)) rfl [.int (iI (B 3 (F 11 l0 0) 2 l1))]) rfl rfl hl.1 rfl (lv_room (Nat.le_of_ble_eq_true rfl)) (D_182 W_prog_13_method_13_code_32 0 rfl rfl rfl) ⟨Nat.le_of_ble_eq_true rfl, Nat.le_of_ble_eq_true rfl⟩) hS (fun q _ h => zAin X hS q h) (zAin X hS) (fun p6 u6 t6 H6 locs6 ht6 hv6 hw6 hB6 hz6 hk6 hS6 => ?_)
    have hZ6 := zBack X ht6 hB6
    subst hw6
    exact b_Walker_makeEvent_35 X hf hZ6 hS6 (lv_sub hl [0, 1, 2] rfl)
  · replace hf := gneg hf h5
    refine lv_iconst (v := iI (-1)) hx hb (D_2 W_prog_13_method_13_code_0 18 rfl rfl) rfl ?_
    refine lv_goto (tgt := 35) hx hb (D_167 W_prog_13_method_13_code_0 19 rfl rfl rfl) (by decide) ?_
    exact b_Walker_makeEvent_35 X hf hZ hS (lv_sub hl [0, 1, 2] rfl)

abbrev Q_Part_tiedPitches (K : zK) (D : va_G) (ca : Nat → ClassId) (ad : Nat → Int → Nat → Nat) (L : List Nat) (r : Int) (F : zF) (B : zB) (A : Nat → Prop) : Array Value → State → Outcome → State → Prop := va_Qi (S := Unit) (fun p _ => p = iI r) (fun _ => zPo D ca ad lnC K.2 L F B A) A
def f_Part_tiedPitches_27 (K : zK)  (F : zF) (B : zB) : zO := some (0, F, B)
set_option maxHeartbeats 4000000 in
set_option maxRecDepth 100000 in
theorem b_Part_tiedPitches_27 {D : va_G} {ca : Nat → ClassId} {ad : Nat → Int → Nat → Nat} {L : List Nat} {aS vS : Nat → Nat} {A : Nat → Prop} {p : Program} {l : Launch} {e : Env} {s : State} {m : MethodId} {args : Array Value} {below : List Frame} {meth : Method} {c : Code} {K : zK} {r : Int} {F9 : zF} {B9 : zB} (X : zX D ca L aS vS A p s m args meth c prog_6_method_7_code 2 (Option.some Jvm.ClassFile.FieldType.int) "StaveHouse$Part")  {F : zF} {B : zB} {H : Heap} {locs : List Loc} {ls : Array Slot} (hf : f_Part_tiedPitches_27 K  F B = some (r, F9, B9)) (hZ : zH D ca ad lnC K.2 L F B A H) (hS : va_S A s.heap H locs) (hl : lv_has ls 2 []) : W p l e ({ frames := 2, cells := 0, slots := 0, locals := 46 } : Room) s m args below meth c H locs 0 0 (MQ below (Q_Part_tiedPitches K D ca ad L r F9 B9 A) args s 0 0 A) (F0 m 27 ls []) := by
  obtain ⟨hx, hb, hr, hml, hown, hts, hlk, hK, hA, hL, hX⟩ := id X
  replace hf : (some (0, F, B)) = some (r, F9, B9) := hf
  refine lv_iconst (v := iI 0) hx hb (D_3 W_prog_6_method_7_code_0 27 rfl rfl) rfl ?_
  cases hf
  exact W.iret hx hb hr (fun t ht hW => ⟨⟨_, (), rfl, rfl, by rw [ht]; exact hZ, va_K.moved hW.alike hK⟩, hS.F ht⟩) hS.2.2 (D_172 W_prog_6_method_7_code_0 28 rfl rfl) hlk

def f_Part_tiedPitches (K : zK) (l0 : Int) (l1 : Int) (F : zF) (B : zB) : zO := if r32 l1 then (if l1 < 0 then f_Part_tiedPitches_27 K F B else if 0 ≤ l0 ∧ l0 < K.2 4 then if r32 (l1 + 1) then if r32 (F 4 l0 6) then (if (F 4 l0 6) ≤ (l1 + 1) then f_Part_tiedPitches_27 K F B else if 0 ≤ l1 ∧ l1 < 200 then if 0 ≤ (B 4 l0 5 l1) ∧ (B 4 l0 5 l1) < K.2 1 then zbind (f_Event_has K (B 4 l0 5 l1) 1 F B) (fun r9 F9 B9 => if r32 r9 then (if r9 = 0 then f_Part_tiedPitches_27 K F9 B9 else if 0 ≤ (l1 + 1) ∧ (l1 + 1) < 200 then if 0 ≤ (B9 4 l0 5 l1) ∧ (B9 4 l0 5 l1) < K.2 1 then if 0 ≤ (B9 4 l0 5 (l1 + 1)) ∧ (B9 4 l0 5 (l1 + 1)) < K.2 1 then zbind (f_Event_sharedWith K (B9 4 l0 5 l1) (B9 4 l0 5 (l1 + 1)) F9 B9) (fun r15 F15 B15 => some (r15, F15, B15)) else none else none else none) else none) else none else none) else none else none else none) else none
set_option maxHeartbeats 4000000 in
set_option maxRecDepth 100000 in
theorem c_Part_tiedPitches {l : Launch} {D : va_G} {ca : Nat → ClassId} {ad : Nat → Int → Nat → Nat} {L : List Nat} {aS vS : Nat → Nat} {sz : Nat} {K : zK}  {l0 : Int} {l1 : Int} {F F9 : zF} {B B9 : zB} {r : Int} (hf : f_Part_tiedPitches K l0 l1 F B = some (r, F9, B9)) : Met l ({ cls := "StaveHouse$Part", name := "tiedPitches", desc := "(I)I" } : Jvm.MethodName) (Cond.code ({ cls := "StaveHouse$Part", name := "tiedPitches", desc := "(I)I" } : Jvm.MethodName) prog_6_method_7_code 2 (Option.some Jvm.ClassFile.FieldType.int) :: wAll) ({ frames := 2, cells := 0, slots := 0, locals := 46 } : Room) (va_Pc [.ref (ad 4 l0 0), .int (iI l1)] (zPre D ca ad lnC K.2 L aS vS F B sz)) (Q_Part_tiedPitches K D ca ad L r F9 B9 (zA L sz)) 0 0 (zA L sz) := by
  refine zMet (Qc := Q_Part_tiedPitches K D ca ad L r F9 B9) (lv := [(0, .ref (ad 4 l0 0)), (1, .int (iI l1))]) (by decide) (Nat.le_of_ble_eq_true rfl) rfl (fun A p e s m below meth c ls X hZ hS hl => ?_)
  obtain ⟨hx, hb, hr, hml, hown, hts, hlk, hK, hA, hL, hX⟩ := id X
  replace hf : (if r32 l1 then (if l1 < 0 then f_Part_tiedPitches_27 K F B else if 0 ≤ l0 ∧ l0 < K.2 4 then if r32 (l1 + 1) then if r32 (F 4 l0 6) then (if (F 4 l0 6) ≤ (l1 + 1) then f_Part_tiedPitches_27 K F B else if 0 ≤ l1 ∧ l1 < 200 then if 0 ≤ (B 4 l0 5 l1) ∧ (B 4 l0 5 l1) < K.2 1 then zbind (f_Event_has K (B 4 l0 5 l1) 1 F B) (fun r9 F9 B9 => if r32 r9 then (if r9 = 0 then f_Part_tiedPitches_27 K F9 B9 else if 0 ≤ (l1 + 1) ∧ (l1 + 1) < 200 then if 0 ≤ (B9 4 l0 5 l1) ∧ (B9 4 l0 5 l1) < K.2 1 then if 0 ≤ (B9 4 l0 5 (l1 + 1)) ∧ (B9 4 l0 5 (l1 + 1)) < K.2 1 then zbind (f_Event_sharedWith K (B9 4 l0 5 l1) (B9 4 l0 5 (l1 + 1)) F9 B9) (fun r15 F15 B15 => some (r15, F15, B15)) else none else none else none) else none) else none else none) else none else none else none) else none) = some (r, F9, B9) := hf
  refine lv_iload_n hx hb (D_27 W_prog_6_method_7_code_0 0 rfl rfl) rfl (lv_at hl 1 rfl) ?_
  obtain ⟨g1, hf⟩ := gif hf
  refine z0lt (tgt := 27) hx hb g1 (D_155 W_prog_6_method_7_code_0 1 rfl rfl rfl) (by decide) (fun h2 => ?_) (fun h2 => ?_)
  · replace hf := gpos hf h2
    exact b_Part_tiedPitches_27 X hf hZ hS (lv_sub hl [] rfl)
  · replace hf := gneg hf h2
    refine lv_iload_n hx hb (D_27 W_prog_6_method_7_code_0 4 rfl rfl) rfl (lv_at hl 1 rfl) ?_
    refine lv_iconst (v := iI 1) hx hb (D_4 W_prog_6_method_7_code_0 5 rfl rfl) rfl ?_
    refine zadd hx hb (D_96 W_prog_6_method_7_code_0 6 rfl rfl) ?_
    refine lv_aload_n hx hb (D_42 W_prog_6_method_7_code_0 7 rfl rfl) rfl (lv_at hl 0 rfl) ?_
    obtain ⟨g3, hf⟩ := gif hf
    refine zget (ci := 4) (C := RX4) (T := TX4) (v := .int (iI (F 4 l0 6))) (k := 6) hx hb hts inW_4 hown hK hZ g3.1 g3.2 rfl (by decide) k_4_135 rfl (D_180 W_prog_6_method_7_code_0 8 rfl rfl rfl) ?_
    obtain ⟨g4, hf⟩ := gif hf
    obtain ⟨g5, hf⟩ := gif hf
    refine zge (tgt := 27) hx hb g4 g5 (D_162 W_prog_6_method_7_code_0 11 rfl rfl rfl) (by decide) (fun h6 => ?_) (fun h6 => ?_)
    · replace hf := gpos hf h6
      exact b_Part_tiedPitches_27 X hf hZ hS (lv_sub hl [] rfl)
    · replace hf := gneg hf h6
      refine lv_aload_n hx hb (D_42 W_prog_6_method_7_code_0 14 rfl rfl) rfl (lv_at hl 0 rfl) ?_
      refine zget (ci := 4) (C := RX4) (T := TX4) (v := .ref (ad 4 l0 (5 + 1))) (k := 5) hx hb hts inW_4 hown hK hZ g3.1 g3.2 rfl (by decide) k_4_130 rfl (D_180 W_prog_6_method_7_code_0 15 rfl rfl rfl) ?_
      refine lv_iload_n hx hb (D_27 W_prog_6_method_7_code_0 18 rfl rfl) rfl (lv_at hl 1 rfl) ?_
      obtain ⟨g7, hf⟩ := gif hf
      refine zaldR (t := 1) (x := 7) (ci := 4) (k := 5) hx hb hK rfl rfl hZ g3.1 g3.2 rfl (Nat.le_of_ble_eq_true rfl) g7.1 g7.2 (D_50 W_prog_6_method_7_code_0 19 rfl rfl) ?_
      refine lv_iconst (v := iI 1) hx hb (D_4 W_prog_6_method_7_code_0 20 rfl rfl) rfl ?_
      obtain ⟨g8, hf⟩ := gif hf
      refine W.eq (g2 := F0 m 21 ls [.int (iI 1), .ref (ad 1 (B 4 l0 5 l1) 0)]) (by rw [zrf_pos (ad := ad) (t := 1) g8.1]; try rfl) ?_
      obtain ⟨r9, F9, B9, hc9, hf⟩ := gbind hf
      refine va_calli (va_runV (As := [.int (iI 1)]) (rest := []) ⟨hx, hb, hml, hown, hts⟩ (c_Event_has (l := l) hc9) (cwV 1 hts (gdV k_5_15 k_5_16 k_5_17 k_1_8 k_5_18) rfl rfl rfl (by decide +kernel) ⟨Nat.le_of_ble_eq_true rfl, Nat.le_of_ble_eq_true rfl⟩) (zPV X hZ hS (ci := 1) g8.1 g8.2 (r := (RX1, TX1, 14)) rfl [.int (iI 1)]) rfl rfl hl.1 rfl (lv_room (Nat.le_of_ble_eq_true rfl)) (D_182 W_prog_6_method_7_code_0 21 rfl rfl rfl) ⟨Nat.le_of_ble_eq_true rfl, Nat.le_of_ble_eq_true rfl⟩) hS (fun q _ h => zAin X hS q h) (zAin X hS) (fun p9 u9 t9 H9 locs9 ht9 hv9 hw9 hB9 hz9 hk9 hS9 => ?_)
      have hZ9 := zBack X ht9 hB9
      subst hw9
      obtain ⟨g10, hf⟩ := gif hf
      refine z0ne (tgt := 29) hx hb g10 (D_154 W_prog_6_method_7_code_0 24 rfl rfl rfl) (by decide) (fun h11 => ?_) (fun h11 => ?_)
      · replace hf := gneg hf h11
        refine lv_aload_n hx hb (D_42 W_prog_6_method_7_code_0 29 rfl rfl) rfl (lv_at hl 0 rfl) ?_
        refine zget (ci := 4) (C := RX4) (T := TX4) (v := .ref (ad 4 l0 (5 + 1))) (k := 5) hx hb hts inW_4 hown hK hZ9 g3.1 g3.2 rfl (by decide) k_4_130 rfl (D_180 W_prog_6_method_7_code_0 30 rfl rfl rfl) ?_
        refine lv_iload_n hx hb (D_27 W_prog_6_method_7_code_32 1 rfl rfl) rfl (lv_at hl 1 rfl) ?_
        refine zaldR (t := 1) (x := 7) (ci := 4) (k := 5) hx hb hK rfl rfl hZ9 g3.1 g3.2 rfl (Nat.le_of_ble_eq_true rfl) g7.1 g7.2 (D_50 W_prog_6_method_7_code_32 2 rfl rfl) ?_
        refine lv_aload_n hx hb (D_42 W_prog_6_method_7_code_32 3 rfl rfl) rfl (lv_at hl 0 rfl) ?_
        refine zget (ci := 4) (C := RX4) (T := TX4) (v := .ref (ad 4 l0 (5 + 1))) (k := 5) hx hb hts inW_4 hown hK hZ9 g3.1 g3.2 rfl (by decide) k_4_130 rfl (D_180 W_prog_6_method_7_code_32 4 rfl rfl rfl) ?_
        refine lv_iload_n hx hb (D_27 W_prog_6_method_7_code_32 7 rfl rfl) rfl (lv_at hl 1 rfl) ?_
        refine lv_iconst (v := iI 1) hx hb (D_4 W_prog_6_method_7_code_32 8 rfl rfl) rfl ?_
        refine zadd hx hb (D_96 W_prog_6_method_7_code_32 9 rfl rfl) ?_
        obtain ⟨g12, hf⟩ := gif hf
        refine zaldR (t := 1) (x := 7) (ci := 4) (k := 5) hx hb hK rfl rfl hZ9 g3.1 g3.2 rfl (Nat.le_of_ble_eq_true rfl) g12.1 g12.2 (D_50 W_prog_6_method_7_code_32 10 rfl rfl) ?_
        obtain ⟨g13, hf⟩ := gif hf
        refine W.eq (g2 := F0 m 43 ls [va_rf (zrf ad 1 (B9 4 l0 5 (l1 + 1))), .ref (ad 1 (B9 4 l0 5 l1) 0)]) (by rw [zrf_pos (ad := ad) (t := 1) g13.1]; try rfl) ?_
        obtain ⟨g14, hf⟩ := gif hf
        refine W.eq (g2 := F0 m 43 ls [.ref (ad 1 (B9 4 l0 5 (l1 + 1)) 0), .ref (ad 1 (B9 4 l0 5 l1) 0)]) (by rw [zrf_pos (ad := ad) (t := 1) g14.1]; try rfl) ?_
        obtain ⟨r15, F15, B15, hc15, hf⟩ := gbind hf
        refine va_calli (va_runV (As := [.ref (ad 1 (B9 4 l0 5 (l1 + 1)) 0)]) (rest := []) ⟨hx, hb, hml, hown, hts⟩ (c_Event_sharedWith (l := l) hc15) (cwV 1 hts (gdV k_5_41 k_5_42 k_5_43 k_1_8 k_5_44) rfl rfl rfl (by decide +kernel) ⟨Nat.le_of_ble_eq_true rfl, Nat.le_of_ble_eq_true rfl⟩) (zPV X hZ9 hS9 (ci := 1) g13.1 g13.2 (r := (RX1, TX1, 14)) rfl [.ref (ad 1 (B9 4 l0 5 (l1 + 1)) 0)]) rfl rfl hl.1 rfl (lv_room (Nat.le_of_ble_eq_true rfl)) (D_182 W_prog_6_method_7_code_32 11 rfl rfl rfl) ⟨Nat.le_of_ble_eq_true rfl, Nat.le_of_ble_eq_true rfl⟩) hS9 (fun q _ h => zAin X hS9 q h) (zAin X hS9) (fun p15 u15 t15 H15 locs15 ht15 hv15 hw15 hB15 hz15 hk15 hS15 => ?_)
        have hZ15 := zBack X ht15 hB15
        subst hw15
        cases hf
        exact W.iret hx hb hr (fun t ht hW => ⟨⟨_, (), rfl, rfl, by rw [ht]; exact hZ15, va_K.moved hW.alike hK⟩, hS15.F ht⟩) hS15.2.2 (D_172 W_prog_6_method_7_code_32 14 rfl rfl) hlk
      · replace hf := gpos hf h11
        exact b_Part_tiedPitches_27 X hf hZ9 hS9 (lv_sub hl [] rfl)

abbrev Q_Part_writeTuplet (K : zK) (D : va_G) (ca : Nat → ClassId) (ad : Nat → Int → Nat → Nat) (L : List Nat) (r : Int) (F : zF) (B : zB) (A : Nat → Prop) : Array Value → State → Outcome → State → Prop := va_Qv (S := Unit) (fun _ => True) (fun _ => zPo D ca ad lnC K.2 L F B A) A
def f_Part_writeTuplet_109 (K : zK)  (F : zF) (B : zB) : zO := some (0, F, B)
set_option maxHeartbeats 4000000 in
set_option maxRecDepth 100000 in
theorem b_Part_writeTuplet_109 {D : va_G} {ca : Nat → ClassId} {ad : Nat → Int → Nat → Nat} {L : List Nat} {aS vS : Nat → Nat} {A : Nat → Prop} {p : Program} {l : Launch} {e : Env} {s : State} {m : MethodId} {args : Array Value} {below : List Frame} {meth : Method} {c : Code} {K : zK} {r : Int} {F9 : zF} {B9 : zB} (X : zX D ca L aS vS A p s m args meth c prog_6_method_12_code 11 (Option.none : Option Jvm.ClassFile.FieldType) "StaveHouse$Part")  {F : zF} {B : zB} {H : Heap} {locs : List Loc} {ls : Array Slot} (hf : f_Part_writeTuplet_109 K  F B = some (r, F9, B9)) (hZ : zH D ca ad lnC K.2 L F B A H) (hS : va_S A s.heap H locs) (hl : lv_has ls 11 []) : W p l e ({ frames := 2, cells := 0, slots := 0, locals := 41 } : Room) s m args below meth c H locs 0 0 (MQ below (Q_Part_writeTuplet K D ca ad L r F9 B9 A) args s 0 0 A) (F0 m 109 ls []) := by
  obtain ⟨hx, hb, hr, hml, hown, hts, hlk, hK, hA, hL, hX⟩ := id X
  replace hf : (some (0, F, B)) = some (r, F9, B9) := hf
  cases hf
  exact W.vret hx hb hr (fun t ht hW => ⟨⟨(), rfl, trivial, by rw [ht]; exact hZ, va_K.moved hW.alike hK⟩, hS.F ht⟩) hS.2.2 (D_177 W_prog_6_method_12_code_96 13 rfl rfl) hlk

def f_Part_writeTuplet_23 (K : zK) : Nat → Int → Int → Int → Int → Int → Int → Int → zF → zB → zO
  | 0, _, _, _, _, _, _, _, _, _ => none
  | n + 1, l9, l8, l6, l5, l0, l1, l2, F, B => if r32 l9 then (if 800 ≤ l9 then f_Part_writeTuplet_109 K F B else if r32 l8 then (if l8 ≤ 0 then f_Part_writeTuplet_109 K F B else if 0 ≤ l0 ∧ l0 < K.2 4 then if r32 (F 4 l0 11) then (if (F 4 l0 11) = 0 then zbind (f_S_greatestValue K l8 F B) (fun r11 F11 B11 => zbind (f_Part_addNote K l0 l1 l2 l6 r11 F11 B11) (fun r12 F12 B12 => zbind (f_S_fineValue K r11 F12 B12) (fun r13 F13 B13 => zbind (f_S_fineValue K r11 F13 B13) (fun r14 F14 B14 => if r32 r14 then if 0 ≤ l5 ∧ l5 < K.2 1 then if r32 (F14 1 l5 3) then if r32 (zmax (F14 1 l5 3) 1) then if ¬ lI (zmax (F14 1 l5 3) 1) = 0 then if r32 (F14 1 l5 4) then f_Part_writeTuplet_23 K n (l9 + 1) (l8 - r13) (l6 + ((zldv (1587600 * r14) (zmax (F14 1 l5 3) 1)) * (F14 1 l5 4))) l5 l0 l1 l2 F14 B14 else none else none else none else none else none else none)))) else f_Part_writeTuplet_109 K F B) else none else none) else none) else none
set_option maxHeartbeats 4000000 in
set_option maxRecDepth 100000 in
theorem b_Part_writeTuplet_23 {D : va_G} {ca : Nat → ClassId} {ad : Nat → Int → Nat → Nat} {L : List Nat} {aS vS : Nat → Nat} {A : Nat → Prop} {p : Program} {l : Launch} {e : Env} {s : State} {m : MethodId} {args : Array Value} {below : List Frame} {meth : Method} {c : Code} {K : zK} {r : Int} {F9 : zF} {B9 : zB} (X : zX D ca L aS vS A p s m args meth c prog_6_method_12_code 11 (Option.none : Option Jvm.ClassFile.FieldType) "StaveHouse$Part") : ∀ {n : Nat} {l9 : Int} {l8 : Int} {l6 : Int} {l5 : Int} {l0 : Int} {l1 : Int} {l2 : Int} {F : zF} {B : zB} {H : Heap} {locs : List Loc} {ls : Array Slot}, f_Part_writeTuplet_23 K n l9 l8 l6 l5 l0 l1 l2 F B = some (r, F9, B9) → zH D ca ad lnC K.2 L F B A H → va_S A s.heap H locs → lv_has ls 11 [(9, .int (iI l9)), (8, .int (iI l8)), (6, .long (lI l6)), (5, va_rf (zrf ad 1 l5)), (0, .ref (ad 4 l0 0)), (1, .int (iI l1)), (2, .int (iI l2))] → W p l e ({ frames := 2, cells := 0, slots := 0, locals := 41 } : Room) s m args below meth c H locs 0 0 (MQ below (Q_Part_writeTuplet K D ca ad L r F9 B9 A) args s 0 0 A) (F0 m 23 ls []) := by
  obtain ⟨hx, hb, hr, hml, hown, hts, hlk, hK, hA, hL, hX⟩ := id X
  intro n
  induction n with
  | zero =>
    intros
    rename_i hf _ _ _
    cases hf
  | succ n ih =>
    intro l9 l8 l6 l5 l0 l1 l2 F B H locs ls hf hZ hS hl
    replace hf : (if r32 l9 then (if 800 ≤ l9 then f_Part_writeTuplet_109 K F B else if r32 l8 then (if l8 ≤ 0 then f_Part_writeTuplet_109 K F B else if 0 ≤ l0 ∧ l0 < K.2 4 then if r32 (F 4 l0 11) then (if (F 4 l0 11) = 0 then zbind (f_S_greatestValue K l8 F B) (fun r11 F11 B11 => zbind (f_Part_addNote K l0 l1 l2 l6 r11 F11 B11) (fun r12 F12 B12 => zbind (f_S_fineValue K r11 F12 B12) (fun r13 F13 B13 => zbind (f_S_fineValue K r11 F13 B13) (fun r14 F14 B14 => if r32 r14 then if 0 ≤ l5 ∧ l5 < K.2 1 then if r32 (F14 1 l5 3) then if r32 (zmax (F14 1 l5 3) 1) then if ¬ lI (zmax (F14 1 l5 3) 1) = 0 then if r32 (F14 1 l5 4) then f_Part_writeTuplet_23 K n (l9 + 1) (l8 - r13) (l6 + ((zldv (1587600 * r14) (zmax (F14 1 l5 3) 1)) * (F14 1 l5 4))) l5 l0 l1 l2 F14 B14 else none else none else none else none else none else none)))) else f_Part_writeTuplet_109 K F B) else none else none) else none) else none) = some (r, F9, B9) := hf
    refine lv_iload hx hb (D_21 W_prog_6_method_12_code_0 23 rfl rfl) (lv_at hl 0 rfl) ?_
    refine lv_sipush (v := iI 800) hx hb (D_17 W_prog_6_method_12_code_0 25 rfl rfl rfl) (by decide) ?_
    obtain ⟨g4, hf⟩ := gif hf
    refine zge (tgt := 109) hx hb g4 (by decide) (D_162 W_prog_6_method_12_code_0 28 rfl rfl rfl) (by decide) (fun h5 => ?_) (fun h5 => ?_)
    · replace hf := gpos hf h5
      exact b_Part_writeTuplet_109 X hf hZ hS (lv_sub hl [] rfl)
    · replace hf := gneg hf h5
      refine lv_iload hx hb (D_21 W_prog_6_method_12_code_0 31 rfl rfl) (lv_at hl 1 rfl) ?_
      obtain ⟨g6, hf⟩ := gif hf
      refine z0le (tgt := 109) hx hb g6 (D_158 W_prog_6_method_12_code_32 1 rfl rfl rfl) (by decide) (fun h7 => ?_) (fun h7 => ?_)
      · replace hf := gpos hf h7
        exact b_Part_writeTuplet_109 X hf hZ hS (lv_sub hl [] rfl)
      · replace hf := gneg hf h7
        refine lv_aload_n hx hb (D_42 W_prog_6_method_12_code_32 4 rfl rfl) rfl (lv_at hl 4 rfl) ?_
        obtain ⟨g8, hf⟩ := gif hf
        refine zget (ci := 4) (C := RX4) (T := TX4) (v := .int (iI (F 4 l0 11))) (k := 11) hx hb hts inW_4 hown hK hZ g8.1 g8.2 rfl (by decide) k_4_151 rfl (D_180 W_prog_6_method_12_code_32 5 rfl rfl rfl) ?_
        obtain ⟨g9, hf⟩ := gif hf
        refine z0ne (tgt := 109) hx hb g9 (D_154 W_prog_6_method_12_code_32 8 rfl rfl rfl) (by decide) (fun h10 => ?_) (fun h10 => ?_)
        · replace hf := gneg hf h10
          exact b_Part_writeTuplet_109 X hf hZ hS (lv_sub hl [] rfl)
        · replace hf := gpos hf h10
          refine lv_iload hx hb (D_21 W_prog_6_method_12_code_32 11 rfl rfl) (lv_at hl 1 rfl) ?_
          obtain ⟨r11, F11, B11, hc11, hf⟩ := gbind hf
          refine va_calli (va_runSN (As := [.int (iI l8)]) (rest := []) ⟨hx, hb, hml, hown, hts⟩ (c_S_greatestValue (l := l) hc11) ⟨va_cnB 1 hts (gdC k_5_66) rfl rfl rfl (hX.1 _ (List.mem_of_getElem? (i := 14) rfl) :) (hts _ k_1_1) (by decide +kernel) ⟨Nat.le_of_ble_eq_true rfl, Nat.le_of_ble_eq_true rfl⟩, hts _ k_5_65, trivial⟩ (zPS X hZ hS [.int (iI l8)]) rfl rfl hl.1 rfl (lv_room (Nat.le_of_ble_eq_true rfl)) (D_184 W_prog_6_method_12_code_32 13 rfl rfl rfl) ⟨Nat.le_of_ble_eq_true rfl, Nat.le_of_ble_eq_true rfl⟩) hS (fun q _ h => zAin X hS q h) (zAin X hS) (fun p11 u11 t11 H11 locs11 ht11 hv11 hw11 hB11 hz11 hk11 hS11 => ?_)
          have hZ11 := zBack X ht11 hB11
          subst hw11
          refine lv_istore (lv' := [(10, .int (iI r11)), (9, .int (iI l9)), (8, .int (iI l8)), (6, .long (lI l6)), (5, va_rf (zrf ad 1 l5)), (0, .ref (ad 4 l0 0)), (1, .int (iI l1)), (2, .int (iI l2))]) hx hb (D_54 W_prog_6_method_12_code_32 16 rfl rfl) hl (by decide) rfl (fun ls hl => ?_)
          refine lv_aload_n hx hb (D_42 W_prog_6_method_12_code_32 18 rfl rfl) rfl (lv_at hl 5 rfl) ?_
          refine lv_iload_n hx hb (D_27 W_prog_6_method_12_code_32 19 rfl rfl) rfl (lv_at hl 6 rfl) ?_
          refine lv_iload_n hx hb (D_28 W_prog_6_method_12_code_32 20 rfl rfl) rfl (lv_at hl 7 rfl) ?_
          refine lv_lload hx hb (D_22 W_prog_6_method_12_code_32 21 rfl rfl) (lv_at hl 3 rfl) ?_
          refine lv_iload hx hb (D_21 W_prog_6_method_12_code_32 23 rfl rfl) (lv_at hl 0 rfl) ?_
          obtain ⟨r12, F12, B12, hc12, hf⟩ := gbind hf
          refine va_callv (va_runV (As := [.int (iI l1), .int (iI l2), .long (lI l6), .int (iI r11)]) (rest := []) ⟨hx, hb, hml, hown, hts⟩ (c_Part_addNote (l := l) hc12) (cwV 4 hts (gdV k_5_71 k_5_73 ks_51 k_1_18 k_5_74) rfl rfl rfl (by decide +kernel) ⟨Nat.le_of_ble_eq_true rfl, Nat.le_of_ble_eq_true rfl⟩) (zPV X hZ11 hS11 (ci := 4) g8.1 g8.2 (r := (RX4, TX4, 13)) rfl [.int (iI l1), .int (iI l2), .long (lI l6), .int (iI r11)]) rfl rfl hl.1 rfl (lv_room (Nat.le_of_ble_eq_true rfl)) (D_182 W_prog_6_method_12_code_32 25 rfl rfl rfl) ⟨Nat.le_of_ble_eq_true rfl, Nat.le_of_ble_eq_true rfl⟩) hS11 (fun q _ h => zAin X hS11 q h) (zAin X hS11) (fun u12 t12 H12 locs12 ht12 hv12 hw12 hB12 hz12 hk12 hS12 => ?_)
          have hZ12 := zBack X ht12 hB12
          refine lv_iload hx hb (D_21 W_prog_6_method_12_code_32 28 rfl rfl) (lv_at hl 2 rfl) ?_
          refine lv_iload hx hb (D_21 W_prog_6_method_12_code_32 30 rfl rfl) (lv_at hl 0 rfl) ?_
          obtain ⟨r13, F13, B13, hc13, hf⟩ := gbind hf
          refine va_calli (va_runSN (As := [.int (iI r11)]) (rest := [.int (iI l8)]) ⟨hx, hb, hml, hown, hts⟩ (c_S_fineValue (l := l) hc13) ⟨va_cnB 1 hts (gdC k_5_69) rfl rfl rfl (hX.1 _ (List.mem_of_getElem? (i := 15) rfl) :) (hts _ k_1_1) (by decide +kernel) ⟨Nat.le_of_ble_eq_true rfl, Nat.le_of_ble_eq_true rfl⟩, hts _ k_5_68, trivial⟩ (zPS X hZ12 hS12 [.int (iI r11)]) rfl rfl hl.1 rfl (lv_room (Nat.le_of_ble_eq_true rfl)) (D_184 W_prog_6_method_12_code_64 0 rfl rfl rfl) ⟨Nat.le_of_ble_eq_true rfl, Nat.le_of_ble_eq_true rfl⟩) hS12 (fun q _ h => zAin X hS12 q h) (zAin X hS12) (fun p13 u13 t13 H13 locs13 ht13 hv13 hw13 hB13 hz13 hk13 hS13 => ?_)
          have hZ13 := zBack X ht13 hB13
          subst hw13
          refine zsub hx hb (D_100 W_prog_6_method_12_code_64 3 rfl rfl) ?_
          refine lv_istore (lv' := [(8, .int (iI (l8 - r13))), (10, .int (iI r11)), (9, .int (iI l9)), (6, .long (lI l6)), (5, va_rf (zrf ad 1 l5)), (0, .ref (ad 4 l0 0)), (1, .int (iI l1)), (2, .int (iI l2))]) hx hb (D_54 W_prog_6_method_12_code_64 4 rfl rfl) hl (by decide) rfl (fun ls hl => ?_)
          refine lv_lload hx hb (D_22 W_prog_6_method_12_code_64 6 rfl rfl) (lv_at hl 3 rfl) ?_
          refine lv_ldc2 hx hb hown (hts _ k_5_76) (D_20 W_prog_6_method_12_code_64 8 rfl rfl rfl) ?_
          refine W.eq (g2 := F0 m 75 ls [.long (lI 1587600), .long (lI l6)]) rfl ?_
          refine lv_iload hx hb (D_21 W_prog_6_method_12_code_64 11 rfl rfl) (lv_at hl 1 rfl) ?_
          obtain ⟨r14, F14, B14, hc14, hf⟩ := gbind hf
          refine va_calli (va_runSN (As := [.int (iI r11)]) (rest := [.long (lI 1587600), .long (lI l6)]) ⟨hx, hb, hml, hown, hts⟩ (c_S_fineValue (l := l) hc14) ⟨va_cnB 1 hts (gdC k_5_69) rfl rfl rfl (hX.1 _ (List.mem_of_getElem? (i := 15) rfl) :) (hts _ k_1_1) (by decide +kernel) ⟨Nat.le_of_ble_eq_true rfl, Nat.le_of_ble_eq_true rfl⟩, hts _ k_5_68, trivial⟩ (zPS X hZ13 hS13 [.int (iI r11)]) rfl rfl hl.1 rfl (lv_room (Nat.le_of_ble_eq_true rfl)) (D_184 W_prog_6_method_12_code_64 13 rfl rfl rfl) ⟨Nat.le_of_ble_eq_true rfl, Nat.le_of_ble_eq_true rfl⟩) hS13 (fun q _ h => zAin X hS13 q h) (zAin X hS13) (fun p14 u14 t14 H14 locs14 ht14 hv14 hw14 hB14 hz14 hk14 hS14 => ?_)
          have hZ14 := zBack X ht14 hB14
          subst hw14
          obtain ⟨g15, hf⟩ := gif hf
          refine zi2l hx hb g15 (D_133 W_prog_6_method_12_code_64 16 rfl rfl) ?_
          refine zlmul hx hb (D_105 W_prog_6_method_12_code_64 17 rfl rfl) ?_
          refine zaload hx hb (D_25 W_prog_6_method_12_code_64 18 rfl rfl) (lv_at hl 4 rfl) ?_
          obtain ⟨g16, hf⟩ := gif hf
          refine zunrf g16.1 ?_
          refine zget (ci := 1) (C := RX1) (T := TX1) (v := .int (iI (F14 1 l5 3))) (k := 3) hx hb hts inW_1 hown hK hZ14 g16.1 g16.2 rfl (by decide) k_2_30 rfl (D_180 W_prog_6_method_12_code_64 20 rfl rfl rfl) ?_
          refine lv_iconst (v := iI 1) hx hb (D_4 W_prog_6_method_12_code_64 23 rfl rfl) rfl ?_
          obtain ⟨g17, hf⟩ := gif hf
          refine va_mmax hx hb (by rw [hml]; exact hl.1.symm) hown (hts _ k_5_77) (hts _ k_1_39) (hts _ k_1_3) (hts _ k_1_40) (Nat.le_of_ble_eq_true rfl) (Nat.le_of_ble_eq_true rfl) (Nat.le_of_ble_eq_true rfl) (Nat.le_of_ble_eq_true rfl) (D_184 W_prog_6_method_12_code_64 24 rfl rfl rfl) ?_
          rw [zmax_e g17 (by decide)]
          obtain ⟨g18, hf⟩ := gif hf
          refine zi2l hx hb g18 (D_133 W_prog_6_method_12_code_64 27 rfl rfl) ?_
          obtain ⟨g19, hf⟩ := gif hf
          refine zldv_r hx hb g19 (D_109 W_prog_6_method_12_code_64 28 rfl rfl) ?_
          refine zaload hx hb (D_25 W_prog_6_method_12_code_64 29 rfl rfl) (lv_at hl 4 rfl) ?_
          refine zunrf g16.1 ?_
          refine zget (ci := 1) (C := RX1) (T := TX1) (v := .int (iI (F14 1 l5 4))) (k := 4) hx hb hts inW_1 hown hK hZ14 g16.1 g16.2 rfl (by decide) k_2_32 rfl (D_180 W_prog_6_method_12_code_64 31 rfl rfl rfl) ?_
          obtain ⟨g20, hf⟩ := gif hf
          refine zi2l hx hb g20 (D_133 W_prog_6_method_12_code_96 2 rfl rfl) ?_
          refine zlmul hx hb (D_105 W_prog_6_method_12_code_96 3 rfl rfl) ?_
          refine zladd hx hb (D_97 W_prog_6_method_12_code_96 4 rfl rfl) ?_
          refine lv_lstore (lv' := [(6, .long (lI (l6 + ((zldv (1587600 * r14) (zmax (F14 1 l5 3) 1)) * (F14 1 l5 4))))), (8, .int (iI (l8 - r13))), (10, .int (iI r11)), (9, .int (iI l9)), (5, va_rf (zrf ad 1 l5)), (0, .ref (ad 4 l0 0)), (1, .int (iI l1)), (2, .int (iI l2))]) hx hb (D_55 W_prog_6_method_12_code_96 5 rfl rfl) hl (by decide) (by cases zrf ad 1 l5 <;> rfl) (fun ls hl => ?_)
          refine lv_iinc (v := iI (l9 + 1)) (lv' := [(9, .int (iI (l9 + 1))), (6, .long (lI (l6 + ((zldv (1587600 * r14) (zmax (F14 1 l5 3) 1)) * (F14 1 l5 4))))), (8, .int (iI (l8 - r13))), (10, .int (iI r11)), (5, va_rf (zrf ad 1 l5)), (0, .ref (ad 4 l0 0)), (1, .int (iI l1)), (2, .int (iI l2))]) hx hb d_6_12_103 hl (k := 3) rfl (iI_add _ 1) (by decide) rfl (fun ls hl => ?_)
          refine lv_goto (tgt := 23) hx hb (D_167 W_prog_6_method_12_code_96 10 rfl rfl rfl) (by decide) ?_
          exact ih hf hZ14 hS14 (lv_sub hl [0, 2, 1, 4, 5, 6, 7] rfl)

def f_Part_writeTuplet (K : zK) (l0 : Int) (l1 : Int) (l2 : Int) (l3 : Int) (F : zF) (B : zB) : zO := if 0 ≤ l0 ∧ l0 < K.2 4 then if 0 ≤ l1 ∧ l1 < 200 then if 0 ≤ (B 4 l0 5 l1) ∧ (B 4 l0 5 l1) < K.2 1 then f_Part_writeTuplet_23 K K.1 0 ((F 1 (B 4 l0 5 l1) 2) * 4) l3 (B 4 l0 5 l1) l0 l1 l2 F B else none else none else none
set_option maxHeartbeats 4000000 in
set_option maxRecDepth 100000 in
theorem c_Part_writeTuplet {l : Launch} {D : va_G} {ca : Nat → ClassId} {ad : Nat → Int → Nat → Nat} {L : List Nat} {aS vS : Nat → Nat} {sz : Nat} {K : zK}  {l0 : Int} {l1 : Int} {l2 : Int} {l3 : Int} {F F9 : zF} {B B9 : zB} {r : Int} (hf : f_Part_writeTuplet K l0 l1 l2 l3 F B = some (r, F9, B9)) : Met l ({ cls := "StaveHouse$Part", name := "writeTuplet", desc := "(IIJ)V" } : Jvm.MethodName) (Cond.code ({ cls := "StaveHouse$Part", name := "writeTuplet", desc := "(IIJ)V" } : Jvm.MethodName) prog_6_method_12_code 11 (Option.none : Option Jvm.ClassFile.FieldType) :: wAll) ({ frames := 2, cells := 0, slots := 0, locals := 41 } : Room) (va_Pc [.ref (ad 4 l0 0), .int (iI l1), .int (iI l2), .long (lI l3)] (zPre D ca ad lnC K.2 L aS vS F B sz)) (Q_Part_writeTuplet K D ca ad L r F9 B9 (zA L sz)) 0 0 (zA L sz) := by
  refine zMet (Qc := Q_Part_writeTuplet K D ca ad L r F9 B9) (lv := [(0, .ref (ad 4 l0 0)), (1, .int (iI l1)), (2, .int (iI l2)), (3, .long (lI l3))]) (by decide) (Nat.le_of_ble_eq_true rfl) rfl (fun A p e s m below meth c ls X hZ hS hl => ?_)
  obtain ⟨hx, hb, hr, hml, hown, hts, hlk, hK, hA, hL, hX⟩ := id X
  replace hf : (if 0 ≤ l0 ∧ l0 < K.2 4 then if 0 ≤ l1 ∧ l1 < 200 then if 0 ≤ (B 4 l0 5 l1) ∧ (B 4 l0 5 l1) < K.2 1 then f_Part_writeTuplet_23 K K.1 0 ((F 1 (B 4 l0 5 l1) 2) * 4) l3 (B 4 l0 5 l1) l0 l1 l2 F B else none else none else none) = some (r, F9, B9) := hf
  refine lv_aload_n hx hb (D_42 W_prog_6_method_12_code_0 0 rfl rfl) rfl (lv_at hl 0 rfl) ?_
  obtain ⟨g1, hf⟩ := gif hf
  refine zget (ci := 4) (C := RX4) (T := TX4) (v := .ref (ad 4 l0 (5 + 1))) (k := 5) hx hb hts inW_4 hown hK hZ g1.1 g1.2 rfl (by decide) k_4_130 rfl (D_180 W_prog_6_method_12_code_0 1 rfl rfl rfl) ?_
  refine lv_iload_n hx hb (D_27 W_prog_6_method_12_code_0 4 rfl rfl) rfl (lv_at hl 1 rfl) ?_
  obtain ⟨g2, hf⟩ := gif hf
  refine zaldR (t := 1) (x := 7) (ci := 4) (k := 5) hx hb hK rfl rfl hZ g1.1 g1.2 rfl (Nat.le_of_ble_eq_true rfl) g2.1 g2.2 (D_50 W_prog_6_method_12_code_0 5 rfl rfl) ?_
  refine zastore (lv' := [(0, .ref (ad 4 l0 0)), (1, .int (iI l1)), (2, .int (iI l2)), (3, .long (lI l3))]) hx hb (D_58 W_prog_6_method_12_code_0 6 rfl rfl) hl (by decide) (fun _ _ => rfl) (fun ls hl => ?_)
  refine lv_lload_n hx hb (D_33 W_prog_6_method_12_code_0 8 rfl rfl) rfl (lv_at hl 4 rfl) ?_
  refine lv_lstore (lv' := [(6, .long (lI l3)), (5, va_rf (zrf ad 1 (B 4 l0 5 l1))), (0, .ref (ad 4 l0 0)), (1, .int (iI l1)), (2, .int (iI l2)), (3, .long (lI l3))]) hx hb (D_55 W_prog_6_method_12_code_0 9 rfl rfl) hl (by decide) (by cases zrf ad 1 (B 4 l0 5 l1) <;> rfl) (fun ls hl => ?_)
  refine zaload hx hb (D_25 W_prog_6_method_12_code_0 11 rfl rfl) (lv_at hl 1 rfl) ?_
  obtain ⟨g3, hf⟩ := gif hf
  refine zunrf g3.1 ?_
  refine zget (ci := 1) (C := RX1) (T := TX1) (v := .int (iI (F 1 (B 4 l0 5 l1) 2))) (k := 2) hx hb hts inW_1 hown hK hZ g3.1 g3.2 rfl (by decide) k_2_28 rfl (D_180 W_prog_6_method_12_code_0 13 rfl rfl rfl) ?_
  refine lv_iconst (v := iI 4) hx hb (D_7 W_prog_6_method_12_code_0 16 rfl rfl) rfl ?_
  refine zmul hx hb (D_104 W_prog_6_method_12_code_0 17 rfl rfl) ?_
  refine lv_istore (lv' := [(8, .int (iI ((F 1 (B 4 l0 5 l1) 2) * 4))), (6, .long (lI l3)), (5, va_rf (zrf ad 1 (B 4 l0 5 l1))), (0, .ref (ad 4 l0 0)), (1, .int (iI l1)), (2, .int (iI l2)), (3, .long (lI l3))]) hx hb (D_54 W_prog_6_method_12_code_0 18 rfl rfl) hl (by decide) rfl (fun ls hl => ?_)
  refine lv_iconst (v := iI 0) hx hb (D_3 W_prog_6_method_12_code_0 20 rfl rfl) rfl ?_
  refine lv_istore (lv' := [(9, .int (iI 0)), (8, .int (iI ((F 1 (B 4 l0 5 l1) 2) * 4))), (6, .long (lI l3)), (5, va_rf (zrf ad 1 (B 4 l0 5 l1))), (0, .ref (ad 4 l0 0)), (1, .int (iI l1)), (2, .int (iI l2)), (3, .long (lI l3))]) hx hb (D_54 W_prog_6_method_12_code_0 21 rfl rfl) hl (by decide) rfl (fun ls hl => ?_)
  exact b_Part_writeTuplet_23 X hf hZ hS (lv_sub hl [0, 1, 2, 3, 4, 5, 6] rfl)

abbrev Q_Part_writeCut (K : zK) (D : va_G) (ca : Nat → ClassId) (ad : Nat → Int → Nat → Nat) (L : List Nat) (r : Int) (F : zF) (B : zB) (A : Nat → Prop) : Array Value → State → Outcome → State → Prop := va_Qv (S := Unit) (fun _ => True) (fun _ => zPo D ca ad lnC K.2 L F B A) A
def f_Part_writeCut_121 (K : zK)  (F : zF) (B : zB) : zO := some (0, F, B)
set_option maxHeartbeats 4000000 in
set_option maxRecDepth 100000 in
theorem b_Part_writeCut_121 {D : va_G} {ca : Nat → ClassId} {ad : Nat → Int → Nat → Nat} {L : List Nat} {aS vS : Nat → Nat} {A : Nat → Prop} {p : Program} {l : Launch} {e : Env} {s : State} {m : MethodId} {args : Array Value} {below : List Frame} {meth : Method} {c : Code} {K : zK} {r : Int} {F9 : zF} {B9 : zB} (X : zX D ca L aS vS A p s m args meth c prog_6_method_11_code 16 (Option.none : Option Jvm.ClassFile.FieldType) "StaveHouse$Part")  {F : zF} {B : zB} {H : Heap} {locs : List Loc} {ls : Array Slot} (hf : f_Part_writeCut_121 K  F B = some (r, F9, B9)) (hZ : zH D ca ad lnC K.2 L F B A H) (hS : va_S A s.heap H locs) (hl : lv_has ls 16 []) : W p l e ({ frames := 3, cells := 0, slots := 0, locals := 71 } : Room) s m args below meth c H locs 0 0 (MQ below (Q_Part_writeCut K D ca ad L r F9 B9 A) args s 0 0 A) (F0 m 121 ls []) := by
  obtain ⟨hx, hb, hr, hml, hown, hts, hlk, hK, hA, hL, hX⟩ := id X
  replace hf : (some (0, F, B)) = some (r, F9, B9) := hf
  cases hf
  exact W.vret hx hb hr (fun t ht hW => ⟨⟨(), rfl, trivial, by rw [ht]; exact hZ, va_K.moved hW.alike hK⟩, hS.F ht⟩) hS.2.2 (D_177 W_prog_6_method_11_code_96 25 rfl rfl) hlk

def f_Part_writeCut_43 (K : zK) : Nat → Int → Int → Int → Int → Int → Int → Int → Int → zF → zB → zO
  | 0, _, _, _, _, _, _, _, _, _, _ => none
  | n + 1, l14, l13, l12, l11, l7, l0, l1, l2, F, B => if r32 l14 then (if 800 ≤ l14 then f_Part_writeCut_121 K F B else if r32 l13 then (if l13 ≤ 0 then f_Part_writeCut_121 K F B else if 0 ≤ l0 ∧ l0 < K.2 4 then if r32 (F 4 l0 11) then (if (F 4 l0 11) = 0 then if 0 ≤ l1 ∧ l1 < K.2 6 then zbind (f_S_nextValue K (F 6 l1 4) (F 6 l1 5) l12 l13 F B) (fun r13 F13 B13 => if r32 l12 then zbind (f_Part_addNote K l0 l2 l11 (l12 * l7) r13 F13 B13) (fun r15 F15 B15 => zbind (f_S_fineValue K r13 F15 B15) (fun r16 F16 B16 => zbind (f_S_fineValue K r13 F16 B16) (fun r17 F17 B17 => f_Part_writeCut_43 K n (l14 + 1) (l13 - r17) (l12 + r16) l11 l7 l0 l1 l2 F17 B17))) else none) else none else f_Part_writeCut_121 K F B) else none else none) else none) else none
set_option maxHeartbeats 4000000 in
set_option maxRecDepth 100000 in
theorem b_Part_writeCut_43 {D : va_G} {ca : Nat → ClassId} {ad : Nat → Int → Nat → Nat} {L : List Nat} {aS vS : Nat → Nat} {A : Nat → Prop} {p : Program} {l : Launch} {e : Env} {s : State} {m : MethodId} {args : Array Value} {below : List Frame} {meth : Method} {c : Code} {K : zK} {r : Int} {F9 : zF} {B9 : zB} (X : zX D ca L aS vS A p s m args meth c prog_6_method_11_code 16 (Option.none : Option Jvm.ClassFile.FieldType) "StaveHouse$Part") : ∀ {n : Nat} {l14 : Int} {l13 : Int} {l12 : Int} {l11 : Int} {l7 : Int} {l0 : Int} {l1 : Int} {l2 : Int} {F : zF} {B : zB} {H : Heap} {locs : List Loc} {ls : Array Slot}, f_Part_writeCut_43 K n l14 l13 l12 l11 l7 l0 l1 l2 F B = some (r, F9, B9) → zH D ca ad lnC K.2 L F B A H → va_S A s.heap H locs → lv_has ls 16 [(14, .int (iI l14)), (13, .int (iI l13)), (12, .int (iI l12)), (11, .int (iI l11)), (7, .long (lI l7)), (0, .ref (ad 4 l0 0)), (1, .ref (ad 6 l1 0)), (2, .int (iI l2))] → W p l e ({ frames := 3, cells := 0, slots := 0, locals := 71 } : Room) s m args below meth c H locs 0 0 (MQ below (Q_Part_writeCut K D ca ad L r F9 B9 A) args s 0 0 A) (F0 m 43 ls []) := by
  obtain ⟨hx, hb, hr, hml, hown, hts, hlk, hK, hA, hL, hX⟩ := id X
  intro n
  induction n with
  | zero =>
    intros
    rename_i hf _ _ _
    cases hf
  | succ n ih =>
    intro l14 l13 l12 l11 l7 l0 l1 l2 F B H locs ls hf hZ hS hl
    replace hf : (if r32 l14 then (if 800 ≤ l14 then f_Part_writeCut_121 K F B else if r32 l13 then (if l13 ≤ 0 then f_Part_writeCut_121 K F B else if 0 ≤ l0 ∧ l0 < K.2 4 then if r32 (F 4 l0 11) then (if (F 4 l0 11) = 0 then if 0 ≤ l1 ∧ l1 < K.2 6 then zbind (f_S_nextValue K (F 6 l1 4) (F 6 l1 5) l12 l13 F B) (fun r13 F13 B13 => if r32 l12 then zbind (f_Part_addNote K l0 l2 l11 (l12 * l7) r13 F13 B13) (fun r15 F15 B15 => zbind (f_S_fineValue K r13 F15 B15) (fun r16 F16 B16 => zbind (f_S_fineValue K r13 F16 B16) (fun r17 F17 B17 => f_Part_writeCut_43 K n (l14 + 1) (l13 - r17) (l12 + r16) l11 l7 l0 l1 l2 F17 B17))) else none) else none else f_Part_writeCut_121 K F B) else none else none) else none) else none) = some (r, F9, B9) := hf
    refine lv_iload hx hb (D_21 W_prog_6_method_11_code_32 11 rfl rfl) (lv_at hl 0 rfl) ?_
    refine lv_sipush (v := iI 800) hx hb (D_17 W_prog_6_method_11_code_32 13 rfl rfl rfl) (by decide) ?_
    obtain ⟨g5, hf⟩ := gif hf
    refine zge (tgt := 121) hx hb g5 (by decide) (D_162 W_prog_6_method_11_code_32 16 rfl rfl rfl) (by decide) (fun h6 => ?_) (fun h6 => ?_)
    · replace hf := gpos hf h6
      exact b_Part_writeCut_121 X hf hZ hS (lv_sub hl [] rfl)
    · replace hf := gneg hf h6
      refine lv_iload hx hb (D_21 W_prog_6_method_11_code_32 19 rfl rfl) (lv_at hl 1 rfl) ?_
      obtain ⟨g7, hf⟩ := gif hf
      refine z0le (tgt := 121) hx hb g7 (D_158 W_prog_6_method_11_code_32 21 rfl rfl rfl) (by decide) (fun h8 => ?_) (fun h8 => ?_)
      · replace hf := gpos hf h8
        exact b_Part_writeCut_121 X hf hZ hS (lv_sub hl [] rfl)
      · replace hf := gneg hf h8
        refine lv_aload_n hx hb (D_42 W_prog_6_method_11_code_32 24 rfl rfl) rfl (lv_at hl 5 rfl) ?_
        obtain ⟨g9, hf⟩ := gif hf
        refine zget (ci := 4) (C := RX4) (T := TX4) (v := .int (iI (F 4 l0 11))) (k := 11) hx hb hts inW_4 hown hK hZ g9.1 g9.2 rfl (by decide) k_4_151 rfl (D_180 W_prog_6_method_11_code_32 25 rfl rfl rfl) ?_
        obtain ⟨g10, hf⟩ := gif hf
        refine z0ne (tgt := 121) hx hb g10 (D_154 W_prog_6_method_11_code_32 28 rfl rfl rfl) (by decide) (fun h11 => ?_) (fun h11 => ?_)
        · replace hf := gneg hf h11
          exact b_Part_writeCut_121 X hf hZ hS (lv_sub hl [] rfl)
        · replace hf := gpos hf h11
          refine lv_aload_n hx hb (D_43 W_prog_6_method_11_code_32 31 rfl rfl) rfl (lv_at hl 6 rfl) ?_
          obtain ⟨g12, hf⟩ := gif hf
          refine zget (ci := 6) (C := RX6) (T := TX6) (v := .int (iI (F 6 l1 4))) (k := 4) hx hb hts inW_6 hown hK hZ g12.1 g12.2 rfl (by decide) k_2_210 rfl (D_180 W_prog_6_method_11_code_64 0 rfl rfl rfl) ?_
          refine lv_aload_n hx hb (D_43 W_prog_6_method_11_code_64 3 rfl rfl) rfl (lv_at hl 6 rfl) ?_
          refine zget (ci := 6) (C := RX6) (T := TX6) (v := .int (iI (F 6 l1 5))) (k := 5) hx hb hts inW_6 hown hK hZ g12.1 g12.2 rfl (by decide) k_2_215 rfl (D_180 W_prog_6_method_11_code_64 4 rfl rfl rfl) ?_
          refine lv_iload hx hb (D_21 W_prog_6_method_11_code_64 7 rfl rfl) (lv_at hl 2 rfl) ?_
          refine lv_iload hx hb (D_21 W_prog_6_method_11_code_64 9 rfl rfl) (lv_at hl 1 rfl) ?_
          obtain ⟨r13, F13, B13, hc13, hf⟩ := gbind hf
          refine va_calli (va_runSN (As := [.int (iI (F 6 l1 4)), .int (iI (F 6 l1 5)), .int (iI l12), .int (iI l13)]) (rest := []) ⟨hx, hb, hml, hown, hts⟩ (c_S_nextValue (l := l) hc13) ⟨va_cnB 4 hts (gdC k_5_88) rfl rfl rfl (hX.1 _ (List.mem_of_getElem? (i := 16) rfl) :) (hts _ k_1_1) (by decide +kernel) ⟨Nat.le_of_ble_eq_true rfl, Nat.le_of_ble_eq_true rfl⟩, hts _ k_5_87, trivial⟩ (zPS X hZ hS [.int (iI (F 6 l1 4)), .int (iI (F 6 l1 5)), .int (iI l12), .int (iI l13)]) rfl rfl hl.1 rfl (lv_room (Nat.le_of_ble_eq_true rfl)) (D_184 W_prog_6_method_11_code_64 11 rfl rfl rfl) ⟨Nat.le_of_ble_eq_true rfl, Nat.le_of_ble_eq_true rfl⟩) hS (fun q _ h => zAin X hS q h) (zAin X hS) (fun p13 u13 t13 H13 locs13 ht13 hv13 hw13 hB13 hz13 hk13 hS13 => ?_)
          have hZ13 := zBack X ht13 hB13
          subst hw13
          refine lv_istore (lv' := [(15, .int (iI r13)), (14, .int (iI l14)), (13, .int (iI l13)), (12, .int (iI l12)), (11, .int (iI l11)), (7, .long (lI l7)), (0, .ref (ad 4 l0 0)), (1, .ref (ad 6 l1 0)), (2, .int (iI l2))]) hx hb (D_54 W_prog_6_method_11_code_64 14 rfl rfl) hl (by decide) rfl (fun ls hl => ?_)
          refine lv_aload_n hx hb (D_42 W_prog_6_method_11_code_64 16 rfl rfl) rfl (lv_at hl 6 rfl) ?_
          refine lv_iload_n hx hb (D_28 W_prog_6_method_11_code_64 17 rfl rfl) rfl (lv_at hl 8 rfl) ?_
          refine lv_iload hx hb (D_21 W_prog_6_method_11_code_64 18 rfl rfl) (lv_at hl 4 rfl) ?_
          refine lv_iload hx hb (D_21 W_prog_6_method_11_code_64 20 rfl rfl) (lv_at hl 3 rfl) ?_
          obtain ⟨g14, hf⟩ := gif hf
          refine zi2l hx hb g14 (D_133 W_prog_6_method_11_code_64 22 rfl rfl) ?_
          refine lv_lload hx hb (D_22 W_prog_6_method_11_code_64 23 rfl rfl) (lv_at hl 5 rfl) ?_
          refine zlmul hx hb (D_105 W_prog_6_method_11_code_64 25 rfl rfl) ?_
          refine lv_iload hx hb (D_21 W_prog_6_method_11_code_64 26 rfl rfl) (lv_at hl 0 rfl) ?_
          obtain ⟨r15, F15, B15, hc15, hf⟩ := gbind hf
          refine va_callv (va_runV (As := [.int (iI l2), .int (iI l11), .long (lI (l12 * l7)), .int (iI r13)]) (rest := []) ⟨hx, hb, hml, hown, hts⟩ (c_Part_addNote (l := l) hc15) (cwV 4 hts (gdV k_5_71 k_5_73 ks_51 k_1_18 k_5_74) rfl rfl rfl (by decide +kernel) ⟨Nat.le_of_ble_eq_true rfl, Nat.le_of_ble_eq_true rfl⟩) (zPV X hZ13 hS13 (ci := 4) g9.1 g9.2 (r := (RX4, TX4, 13)) rfl [.int (iI l2), .int (iI l11), .long (lI (l12 * l7)), .int (iI r13)]) rfl rfl hl.1 rfl (lv_room (Nat.le_of_ble_eq_true rfl)) (D_182 W_prog_6_method_11_code_64 28 rfl rfl rfl) ⟨Nat.le_of_ble_eq_true rfl, Nat.le_of_ble_eq_true rfl⟩) hS13 (fun q _ h => zAin X hS13 q h) (zAin X hS13) (fun u15 t15 H15 locs15 ht15 hv15 hw15 hB15 hz15 hk15 hS15 => ?_)
          have hZ15 := zBack X ht15 hB15
          refine lv_iload hx hb (D_21 W_prog_6_method_11_code_64 31 rfl rfl) (lv_at hl 3 rfl) ?_
          refine lv_iload hx hb (D_21 W_prog_6_method_11_code_96 1 rfl rfl) (lv_at hl 0 rfl) ?_
          obtain ⟨r16, F16, B16, hc16, hf⟩ := gbind hf
          refine va_calli (va_runSN (As := [.int (iI r13)]) (rest := [.int (iI l12)]) ⟨hx, hb, hml, hown, hts⟩ (c_S_fineValue (l := l) hc16) ⟨va_cnB 1 hts (gdC k_5_69) rfl rfl rfl (hX.1 _ (List.mem_of_getElem? (i := 15) rfl) :) (hts _ k_1_1) (by decide +kernel) ⟨Nat.le_of_ble_eq_true rfl, Nat.le_of_ble_eq_true rfl⟩, hts _ k_5_68, trivial⟩ (zPS X hZ15 hS15 [.int (iI r13)]) rfl rfl hl.1 rfl (lv_room (Nat.le_of_ble_eq_true rfl)) (D_184 W_prog_6_method_11_code_96 3 rfl rfl rfl) ⟨Nat.le_of_ble_eq_true rfl, Nat.le_of_ble_eq_true rfl⟩) hS15 (fun q _ h => zAin X hS15 q h) (zAin X hS15) (fun p16 u16 t16 H16 locs16 ht16 hv16 hw16 hB16 hz16 hk16 hS16 => ?_)
          have hZ16 := zBack X ht16 hB16
          subst hw16
          refine zadd hx hb (D_96 W_prog_6_method_11_code_96 6 rfl rfl) ?_
          refine lv_istore (lv' := [(12, .int (iI (l12 + r16))), (15, .int (iI r13)), (14, .int (iI l14)), (13, .int (iI l13)), (11, .int (iI l11)), (7, .long (lI l7)), (0, .ref (ad 4 l0 0)), (1, .ref (ad 6 l1 0)), (2, .int (iI l2))]) hx hb (D_54 W_prog_6_method_11_code_96 7 rfl rfl) hl (by decide) rfl (fun ls hl => ?_)
          refine lv_iload hx hb (D_21 W_prog_6_method_11_code_96 9 rfl rfl) (lv_at hl 3 rfl) ?_
          refine lv_iload hx hb (D_21 W_prog_6_method_11_code_96 11 rfl rfl) (lv_at hl 1 rfl) ?_
          obtain ⟨r17, F17, B17, hc17, hf⟩ := gbind hf
          refine va_calli (va_runSN (As := [.int (iI r13)]) (rest := [.int (iI l13)]) ⟨hx, hb, hml, hown, hts⟩ (c_S_fineValue (l := l) hc17) ⟨va_cnB 1 hts (gdC k_5_69) rfl rfl rfl (hX.1 _ (List.mem_of_getElem? (i := 15) rfl) :) (hts _ k_1_1) (by decide +kernel) ⟨Nat.le_of_ble_eq_true rfl, Nat.le_of_ble_eq_true rfl⟩, hts _ k_5_68, trivial⟩ (zPS X hZ16 hS16 [.int (iI r13)]) rfl rfl hl.1 rfl (lv_room (Nat.le_of_ble_eq_true rfl)) (D_184 W_prog_6_method_11_code_96 13 rfl rfl rfl) ⟨Nat.le_of_ble_eq_true rfl, Nat.le_of_ble_eq_true rfl⟩) hS16 (fun q _ h => zAin X hS16 q h) (zAin X hS16) (fun p17 u17 t17 H17 locs17 ht17 hv17 hw17 hB17 hz17 hk17 hS17 => ?_)
          have hZ17 := zBack X ht17 hB17
          subst hw17
          refine zsub hx hb (D_100 W_prog_6_method_11_code_96 16 rfl rfl) ?_
          refine lv_istore (lv' := [(13, .int (iI (l13 - r17))), (12, .int (iI (l12 + r16))), (15, .int (iI r13)), (14, .int (iI l14)), (11, .int (iI l11)), (7, .long (lI l7)), (0, .ref (ad 4 l0 0)), (1, .ref (ad 6 l1 0)), (2, .int (iI l2))]) hx hb (D_54 W_prog_6_method_11_code_96 17 rfl rfl) hl (by decide) rfl (fun ls hl => ?_)
          refine lv_iinc (v := iI (l14 + 1)) (lv' := [(14, .int (iI (l14 + 1))), (13, .int (iI (l13 - r17))), (12, .int (iI (l12 + r16))), (15, .int (iI r13)), (11, .int (iI l11)), (7, .long (lI l7)), (0, .ref (ad 4 l0 0)), (1, .ref (ad 6 l1 0)), (2, .int (iI l2))]) hx hb d_6_11_115 hl (k := 3) rfl (iI_add _ 1) (by decide) rfl (fun ls hl => ?_)
          refine lv_goto (tgt := 43) hx hb (D_167 W_prog_6_method_11_code_96 22 rfl rfl rfl) (by decide) ?_
          exact ih hf hZ17 hS17 (lv_sub hl [0, 1, 2, 4, 5, 6, 7, 8] rfl)

def f_Part_writeCut (K : zK) (l0 : Int) (l1 : Int) (l2 : Int) (l3 : Int) (l5 : Int) (F : zF) (B : zB) : zO := if 0 ≤ l1 ∧ l1 < K.2 6 then zbind (f_Piece_barLength K l1 F B) (fun r2 F2 B2 => if ¬ lI r2 = 0 then if r32 (zldv l3 r2) then f_Part_writeCut_43 K K.1 0 (zldv l5 1587600) (zldv (l3 - ((zldv l3 r2) * r2)) 1587600) (zldv l3 r2) 1587600 l0 l1 l2 F2 B2 else none else none) else none
set_option maxHeartbeats 4000000 in
set_option maxRecDepth 100000 in
theorem c_Part_writeCut {l : Launch} {D : va_G} {ca : Nat → ClassId} {ad : Nat → Int → Nat → Nat} {L : List Nat} {aS vS : Nat → Nat} {sz : Nat} {K : zK}  {l0 : Int} {l1 : Int} {l2 : Int} {l3 : Int} {l5 : Int} {F F9 : zF} {B B9 : zB} {r : Int} (hf : f_Part_writeCut K l0 l1 l2 l3 l5 F B = some (r, F9, B9)) : Met l ({ cls := "StaveHouse$Part", name := "writeCut", desc := "(LStaveHouse$Piece;IJJ)V" } : Jvm.MethodName) (Cond.code ({ cls := "StaveHouse$Part", name := "writeCut", desc := "(LStaveHouse$Piece;IJJ)V" } : Jvm.MethodName) prog_6_method_11_code 16 (Option.none : Option Jvm.ClassFile.FieldType) :: wAll) ({ frames := 3, cells := 0, slots := 0, locals := 71 } : Room) (va_Pc [.ref (ad 4 l0 0), .ref (ad 6 l1 0), .int (iI l2), .long (lI l3), .long (lI l5)] (zPre D ca ad lnC K.2 L aS vS F B sz)) (Q_Part_writeCut K D ca ad L r F9 B9 (zA L sz)) 0 0 (zA L sz) := by
  refine zMet (Qc := Q_Part_writeCut K D ca ad L r F9 B9) (lv := [(0, .ref (ad 4 l0 0)), (1, .ref (ad 6 l1 0)), (2, .int (iI l2)), (3, .long (lI l3)), (5, .long (lI l5))]) (by decide) (Nat.le_of_ble_eq_true rfl) rfl (fun A p e s m below meth c ls X hZ hS hl => ?_)
  obtain ⟨hx, hb, hr, hml, hown, hts, hlk, hK, hA, hL, hX⟩ := id X
  replace hf : (if 0 ≤ l1 ∧ l1 < K.2 6 then zbind (f_Piece_barLength K l1 F B) (fun r2 F2 B2 => if ¬ lI r2 = 0 then if r32 (zldv l3 r2) then f_Part_writeCut_43 K K.1 0 (zldv l5 1587600) (zldv (l3 - ((zldv l3 r2) * r2)) 1587600) (zldv l3 r2) 1587600 l0 l1 l2 F2 B2 else none else none) else none) = some (r, F9, B9) := hf
  refine lv_ldc2 hx hb hown (hts _ k_5_76) (D_20 W_prog_6_method_11_code_0 0 rfl rfl rfl) ?_
  refine W.eq (g2 := F0 m 3 ls [.long (lI 1587600)]) rfl ?_
  refine lv_lstore (lv' := [(7, .long (lI 1587600)), (0, .ref (ad 4 l0 0)), (1, .ref (ad 6 l1 0)), (2, .int (iI l2)), (3, .long (lI l3)), (5, .long (lI l5))]) hx hb (D_55 W_prog_6_method_11_code_0 3 rfl rfl) hl (by decide) rfl (fun ls hl => ?_)
  refine lv_aload_n hx hb (D_43 W_prog_6_method_11_code_0 5 rfl rfl) rfl (lv_at hl 2 rfl) ?_
  obtain ⟨g1, hf⟩ := gif hf
  obtain ⟨r2, F2, B2, hc2, hf⟩ := gbind hf
  refine va_calll (va_runV (As := []) (rest := []) ⟨hx, hb, hml, hown, hts⟩ (c_Piece_barLength (l := l) hc2) (cwV 0 hts (gdV k_5_31 k_4_190 k_4_191 k_1_15 k_4_192) rfl rfl rfl (by decide +kernel) ⟨Nat.le_of_ble_eq_true rfl, Nat.le_of_ble_eq_true rfl⟩) (zPV X hZ hS (ci := 6) g1.1 g1.2 (r := (RX6, TX6, 14)) rfl []) rfl rfl hl.1 rfl (lv_room (Nat.le_of_ble_eq_true rfl)) (D_182 W_prog_6_method_11_code_0 6 rfl rfl rfl) ⟨Nat.le_of_ble_eq_true rfl, Nat.le_of_ble_eq_true rfl⟩) hS (fun q _ h => zAin X hS q h) (zAin X hS) (fun p2 u2 t2 H2 locs2 ht2 hv2 hw2 hB2 hz2 hk2 hS2 => ?_)
  have hZ2 := zBack X ht2 hB2
  subst hw2
  refine lv_lstore (lv' := [(9, .long (lI r2)), (7, .long (lI 1587600)), (0, .ref (ad 4 l0 0)), (1, .ref (ad 6 l1 0)), (2, .int (iI l2)), (3, .long (lI l3)), (5, .long (lI l5))]) hx hb (D_55 W_prog_6_method_11_code_0 9 rfl rfl) hl (by decide) rfl (fun ls hl => ?_)
  refine lv_lload_n hx hb (D_33 W_prog_6_method_11_code_0 11 rfl rfl) rfl (lv_at hl 5 rfl) ?_
  refine lv_lload hx hb (D_22 W_prog_6_method_11_code_0 12 rfl rfl) (lv_at hl 0 rfl) ?_
  obtain ⟨g3, hf⟩ := gif hf
  refine zldv_r hx hb g3 (D_109 W_prog_6_method_11_code_0 14 rfl rfl) ?_
  refine zl2iw hx hb (D_136 W_prog_6_method_11_code_0 15 rfl rfl) ?_
  refine lv_istore (lv' := [(11, .int (iI (zldv l3 r2))), (9, .long (lI r2)), (7, .long (lI 1587600)), (0, .ref (ad 4 l0 0)), (1, .ref (ad 6 l1 0)), (2, .int (iI l2)), (3, .long (lI l3)), (5, .long (lI l5))]) hx hb (D_54 W_prog_6_method_11_code_0 16 rfl rfl) hl (by decide) rfl (fun ls hl => ?_)
  refine lv_lload_n hx hb (D_33 W_prog_6_method_11_code_0 18 rfl rfl) rfl (lv_at hl 6 rfl) ?_
  refine lv_iload hx hb (D_21 W_prog_6_method_11_code_0 19 rfl rfl) (lv_at hl 0 rfl) ?_
  obtain ⟨g4, hf⟩ := gif hf
  refine zi2l hx hb g4 (D_133 W_prog_6_method_11_code_0 21 rfl rfl) ?_
  refine lv_lload hx hb (D_22 W_prog_6_method_11_code_0 22 rfl rfl) (lv_at hl 1 rfl) ?_
  refine zlmul hx hb (D_105 W_prog_6_method_11_code_0 24 rfl rfl) ?_
  refine zlsub hx hb (D_101 W_prog_6_method_11_code_0 25 rfl rfl) ?_
  refine lv_lload hx hb (D_22 W_prog_6_method_11_code_0 26 rfl rfl) (lv_at hl 2 rfl) ?_
  refine zldv_r hx hb (by decide) (D_109 W_prog_6_method_11_code_0 28 rfl rfl) ?_
  refine zl2iw hx hb (D_136 W_prog_6_method_11_code_0 29 rfl rfl) ?_
  refine lv_istore (lv' := [(12, .int (iI (zldv (l3 - ((zldv l3 r2) * r2)) 1587600))), (11, .int (iI (zldv l3 r2))), (9, .long (lI r2)), (7, .long (lI 1587600)), (0, .ref (ad 4 l0 0)), (1, .ref (ad 6 l1 0)), (2, .int (iI l2)), (3, .long (lI l3)), (5, .long (lI l5))]) hx hb (D_54 W_prog_6_method_11_code_0 30 rfl rfl) hl (by decide) rfl (fun ls hl => ?_)
  refine lv_lload hx hb (D_22 W_prog_6_method_11_code_32 0 rfl rfl) (lv_at hl 8 rfl) ?_
  refine lv_lload hx hb (D_22 W_prog_6_method_11_code_32 2 rfl rfl) (lv_at hl 3 rfl) ?_
  refine zldv_r hx hb (by decide) (D_109 W_prog_6_method_11_code_32 4 rfl rfl) ?_
  refine zl2iw hx hb (D_136 W_prog_6_method_11_code_32 5 rfl rfl) ?_
  refine lv_istore (lv' := [(13, .int (iI (zldv l5 1587600))), (12, .int (iI (zldv (l3 - ((zldv l3 r2) * r2)) 1587600))), (11, .int (iI (zldv l3 r2))), (9, .long (lI r2)), (7, .long (lI 1587600)), (0, .ref (ad 4 l0 0)), (1, .ref (ad 6 l1 0)), (2, .int (iI l2)), (3, .long (lI l3)), (5, .long (lI l5))]) hx hb (D_54 W_prog_6_method_11_code_32 6 rfl rfl) hl (by decide) rfl (fun ls hl => ?_)
  refine lv_iconst (v := iI 0) hx hb (D_3 W_prog_6_method_11_code_32 8 rfl rfl) rfl ?_
  refine lv_istore (lv' := [(14, .int (iI 0)), (13, .int (iI (zldv l5 1587600))), (12, .int (iI (zldv (l3 - ((zldv l3 r2) * r2)) 1587600))), (11, .int (iI (zldv l3 r2))), (9, .long (lI r2)), (7, .long (lI 1587600)), (0, .ref (ad 4 l0 0)), (1, .ref (ad 6 l1 0)), (2, .int (iI l2)), (3, .long (lI l3)), (5, .long (lI l5))]) hx hb (D_54 W_prog_6_method_11_code_32 9 rfl rfl) hl (by decide) rfl (fun ls hl => ?_)
  exact b_Part_writeCut_43 X hf hZ2 hS2 (lv_sub hl [0, 1, 2, 3, 5, 6, 7, 8] rfl)

abbrev Q_Part_hold (K : zK) (D : va_G) (ca : Nat → ClassId) (ad : Nat → Int → Nat → Nat) (L : List Nat) (r : Int) (F : zF) (B : zB) (A : Nat → Prop) : Array Value → State → Outcome → State → Prop := va_Qv (S := Unit) (fun _ => True) (fun _ => zPo D ca ad lnC K.2 L F B A) A
def f_Part_hold_89 (rec2 : Int → Int → zF → zB → zO) (K : zK) (l1 : Int) (l0 : Int) (F : zF) (B : zB) : zO := rec2 (l1 + 1) l0 F B
set_option maxHeartbeats 4000000 in
set_option maxRecDepth 100000 in
theorem b_Part_hold_89 {D : va_G} {ca : Nat → ClassId} {ad : Nat → Int → Nat → Nat} {L : List Nat} {aS vS : Nat → Nat} {A : Nat → Prop} {p : Program} {l : Launch} {e : Env} {s : State} {m : MethodId} {args : Array Value} {below : List Frame} {meth : Method} {c : Code} {K : zK} {r : Int} {F9 : zF} {B9 : zB} (X : zX D ca L aS vS A p s m args meth c prog_6_method_16_code 3 (Option.none : Option Jvm.ClassFile.FieldType) "StaveHouse$Part") {rec2 : Int → Int → zF → zB → zO} (hrec2 : ∀ {l1 : Int} {l0 : Int} {F : zF} {B : zB} {H : Heap} {locs : List Loc} {ls : Array Slot}, rec2 l1 l0 F B = some (r, F9, B9) → zH D ca ad lnC K.2 L F B A H → va_S A s.heap H locs → lv_has ls 3 [(1, .int (iI l1)), (0, .ref (ad 4 l0 0))] → W p l e ({ frames := 3, cells := 0, slots := 0, locals := 67 } : Room) s m args below meth c H locs 0 0 (MQ below (Q_Part_hold K D ca ad L r F9 B9 A) args s 0 0 A) (F0 m 2 ls [])) {l1 : Int} {l0 : Int} {F : zF} {B : zB} {H : Heap} {locs : List Loc} {ls : Array Slot} (hf : f_Part_hold_89 rec2 K l1 l0 F B = some (r, F9, B9)) (hZ : zH D ca ad lnC K.2 L F B A H) (hS : va_S A s.heap H locs) (hl : lv_has ls 3 [(1, .int (iI l1)), (0, .ref (ad 4 l0 0))]) : W p l e ({ frames := 3, cells := 0, slots := 0, locals := 67 } : Room) s m args below meth c H locs 0 0 (MQ below (Q_Part_hold K D ca ad L r F9 B9 A) args s 0 0 A) (F0 m 89 ls []) := by
  obtain ⟨hx, hb, hr, hml, hown, hts, hlk, hK, hA, hL, hX⟩ := id X
  replace hf : (rec2 (l1 + 1) l0 F B) = some (r, F9, B9) := hf
  refine lv_iinc (v := iI (l1 + 1)) (lv' := [(1, .int (iI (l1 + 1))), (0, .ref (ad 4 l0 0))]) hx hb d_6_16_89 hl (k := 0) rfl (iI_add _ 1) (by decide) rfl (fun ls hl => ?_)
  refine lv_goto (tgt := 2) hx hb (D_167 W_prog_6_method_16_code_64 28 rfl rfl rfl) (by decide) ?_
  exact hrec2 hf hZ hS (lv_sub hl [0, 1] rfl)

def f_Part_hold_2 (K : zK) : Nat → Int → Int → zF → zB → zO
  | 0, _, _, _, _ => none
  | n + 1, l1, l0, F, B => if 0 ≤ l0 ∧ l0 < K.2 4 then if r32 l1 then if r32 (F 4 l0 10) then (if (F 4 l0 10) ≤ l1 then some (0, F, B) else if 0 ≤ l1 ∧ l1 < 800 then zbind (f_Part_isRestNote K l0 l1 F B) (fun r6 F6 B6 => if r32 r6 then (if r6 = 0 then zbind (f_Part_continues K l0 (l1 + 1) F6 B6) (fun r9 F9 B9 => if r32 r9 then (if r9 = 0 then zbind (f_Part_tiedPitches K l0 (B 4 l0 360 l1) F9 B9) (fun r12 F12 B12 => f_Part_hold_89 (f_Part_hold_2 K n) K l1 l0 F12 (zup4 B12 4 l0 366 l1 r12)) else if 0 ≤ (B 4 l0 360 l1) ∧ (B 4 l0 360 l1) < 200 then if 0 ≤ (B9 4 l0 5 (B 4 l0 360 l1)) ∧ (B9 4 l0 5 (B 4 l0 360 l1)) < K.2 1 then f_Part_hold_89 (f_Part_hold_2 K n) K l1 l0 F9 (zup4 B9 4 l0 366 l1 ((zshl 1 (F9 1 (B9 4 l0 5 (B 4 l0 360 l1)) 10)) - 1)) else none else none) else none) else f_Part_hold_89 (f_Part_hold_2 K n) K l1 l0 F6 (zup4 B6 4 l0 366 l1 0)) else none) else none) else none else none else none
set_option maxHeartbeats 4000000 in
set_option maxRecDepth 100000 in
theorem b_Part_hold_2 {D : va_G} {ca : Nat → ClassId} {ad : Nat → Int → Nat → Nat} {L : List Nat} {aS vS : Nat → Nat} {A : Nat → Prop} {p : Program} {l : Launch} {e : Env} {s : State} {m : MethodId} {args : Array Value} {below : List Frame} {meth : Method} {c : Code} {K : zK} {r : Int} {F9 : zF} {B9 : zB} (X : zX D ca L aS vS A p s m args meth c prog_6_method_16_code 3 (Option.none : Option Jvm.ClassFile.FieldType) "StaveHouse$Part") : ∀ {n : Nat} {l1 : Int} {l0 : Int} {F : zF} {B : zB} {H : Heap} {locs : List Loc} {ls : Array Slot}, f_Part_hold_2 K n l1 l0 F B = some (r, F9, B9) → zH D ca ad lnC K.2 L F B A H → va_S A s.heap H locs → lv_has ls 3 [(1, .int (iI l1)), (0, .ref (ad 4 l0 0))] → W p l e ({ frames := 3, cells := 0, slots := 0, locals := 67 } : Room) s m args below meth c H locs 0 0 (MQ below (Q_Part_hold K D ca ad L r F9 B9 A) args s 0 0 A) (F0 m 2 ls []) := by
  obtain ⟨hx, hb, hr, hml, hown, hts, hlk, hK, hA, hL, hX⟩ := id X
  intro n
  induction n with
  | zero =>
    intros
    rename_i hf _ _ _
    cases hf
  | succ n ih =>
    intro l1 l0 F B H locs ls hf hZ hS hl
    replace hf : (if 0 ≤ l0 ∧ l0 < K.2 4 then if r32 l1 then if r32 (F 4 l0 10) then (if (F 4 l0 10) ≤ l1 then some (0, F, B) else if 0 ≤ l1 ∧ l1 < 800 then zbind (f_Part_isRestNote K l0 l1 F B) (fun r6 F6 B6 => if r32 r6 then (if r6 = 0 then zbind (f_Part_continues K l0 (l1 + 1) F6 B6) (fun r9 F9 B9 => if r32 r9 then (if r9 = 0 then zbind (f_Part_tiedPitches K l0 (B 4 l0 360 l1) F9 B9) (fun r12 F12 B12 => f_Part_hold_89 (f_Part_hold_2 K n) K l1 l0 F12 (zup4 B12 4 l0 366 l1 r12)) else if 0 ≤ (B 4 l0 360 l1) ∧ (B 4 l0 360 l1) < 200 then if 0 ≤ (B9 4 l0 5 (B 4 l0 360 l1)) ∧ (B9 4 l0 5 (B 4 l0 360 l1)) < K.2 1 then f_Part_hold_89 (f_Part_hold_2 K n) K l1 l0 F9 (zup4 B9 4 l0 366 l1 ((zshl 1 (F9 1 (B9 4 l0 5 (B 4 l0 360 l1)) 10)) - 1)) else none else none) else none) else f_Part_hold_89 (f_Part_hold_2 K n) K l1 l0 F6 (zup4 B6 4 l0 366 l1 0)) else none) else none) else none else none else none) = some (r, F9, B9) := hf
    refine lv_iload_n hx hb (D_27 W_prog_6_method_16_code_0 2 rfl rfl) rfl (lv_at hl 0 rfl) ?_
    refine lv_aload_n hx hb (D_42 W_prog_6_method_16_code_0 3 rfl rfl) rfl (lv_at hl 1 rfl) ?_
    obtain ⟨g1, hf⟩ := gif hf
    refine zget (ci := 4) (C := RX4) (T := TX4) (v := .int (iI (F 4 l0 10))) (k := 10) hx hb hts inW_4 hown hK hZ g1.1 g1.2 rfl (by decide) k_4_148 rfl (D_180 W_prog_6_method_16_code_0 4 rfl rfl rfl) ?_
    obtain ⟨g2, hf⟩ := gif hf
    obtain ⟨g3, hf⟩ := gif hf
    refine zge (tgt := 95) hx hb g2 g3 (D_162 W_prog_6_method_16_code_0 7 rfl rfl rfl) (by decide) (fun h4 => ?_) (fun h4 => ?_)
    · replace hf := gpos hf h4
      cases hf
      exact W.vret hx hb hr (fun t ht hW => ⟨⟨(), rfl, trivial, by rw [ht]; exact hZ, va_K.moved hW.alike hK⟩, hS.F ht⟩) hS.2.2 (D_177 W_prog_6_method_16_code_64 31 rfl rfl) hlk
    · replace hf := gneg hf h4
      refine lv_aload_n hx hb (D_42 W_prog_6_method_16_code_0 10 rfl rfl) rfl (lv_at hl 1 rfl) ?_
      refine zget (ci := 4) (C := RX4) (T := TX4) (v := .ref (ad 4 l0 (8 + 1))) (k := 8) hx hb hts inW_4 hown hK hZ g1.1 g1.2 rfl (by decide) k_4_142 rfl (D_180 W_prog_6_method_16_code_0 11 rfl rfl rfl) ?_
      refine lv_iconst (v := iI 0) hx hb (D_3 W_prog_6_method_16_code_0 14 rfl rfl) rfl ?_
      refine zaldQ (t := 0) (ci := 4) (k := 8) hx hb hK rfl hZ g1.1 g1.2 rfl (Nat.le_of_ble_eq_true rfl) (by decide) (by decide) (D_50 W_prog_6_method_16_code_0 15 rfl rfl) ?_
      refine W.eq (g2 := F0 m 16 ls [.ref (ad 4 l0 (360 + 1))]) rfl ?_
      refine lv_iload_n hx hb (D_27 W_prog_6_method_16_code_0 16 rfl rfl) rfl (lv_at hl 0 rfl) ?_
      obtain ⟨g5, hf⟩ := gif hf
      refine zald (ci := 4) (k := 360) hx hb hK rfl hZ g1.1 g1.2 rfl (Nat.le_of_ble_eq_true rfl) g5.1 g5.2 (D_46 W_prog_6_method_16_code_0 17 rfl rfl) ?_
      refine lv_istore_n (lv' := [(2, .int (iI (B 4 l0 360 l1))), (1, .int (iI l1)), (0, .ref (ad 4 l0 0))]) hx hb (D_61 W_prog_6_method_16_code_0 18 rfl rfl) rfl hl (by decide) rfl (fun ls hl => ?_)
      refine lv_aload_n hx hb (D_42 W_prog_6_method_16_code_0 19 rfl rfl) rfl (lv_at hl 2 rfl) ?_
      refine lv_iload_n hx hb (D_27 W_prog_6_method_16_code_0 20 rfl rfl) rfl (lv_at hl 1 rfl) ?_
      obtain ⟨r6, F6, B6, hc6, hf⟩ := gbind hf
      refine va_calli (va_runV (As := [.int (iI l1)]) (rest := []) ⟨hx, hb, hml, hown, hts⟩ (c_Part_isRestNote (l := l) hc6) (cwV 1 hts (gdV k_5_104 k_5_106 ks_54 k_1_18 k_5_107) rfl rfl rfl (by decide +kernel) ⟨Nat.le_of_ble_eq_true rfl, Nat.le_of_ble_eq_true rfl⟩) (zPV X hZ hS (ci := 4) g1.1 g1.2 (r := (RX4, TX4, 13)) rfl [.int (iI l1)]) rfl rfl hl.1 rfl (lv_room (Nat.le_of_ble_eq_true rfl)) (D_182 W_prog_6_method_16_code_0 21 rfl rfl rfl) ⟨Nat.le_of_ble_eq_true rfl, Nat.le_of_ble_eq_true rfl⟩) hS (fun q _ h => zAin X hS q h) (zAin X hS) (fun p6 u6 t6 H6 locs6 ht6 hv6 hw6 hB6 hz6 hk6 hS6 => ?_)
      have hZ6 := zBack X ht6 hB6
      subst hw6
      obtain ⟨g7, hf⟩ := gif hf
      refine z0eq (tgt := 40) hx hb g7 (D_153 W_prog_6_method_16_code_0 24 rfl rfl rfl) (by decide) (fun h8 => ?_) (fun h8 => ?_)
      · replace hf := gpos hf h8
        refine lv_aload_n hx hb (D_42 W_prog_6_method_16_code_32 8 rfl rfl) rfl (lv_at hl 2 rfl) ?_
        refine lv_iload_n hx hb (D_27 W_prog_6_method_16_code_32 9 rfl rfl) rfl (lv_at hl 1 rfl) ?_
        refine lv_iconst (v := iI 1) hx hb (D_4 W_prog_6_method_16_code_32 10 rfl rfl) rfl ?_
        refine zadd hx hb (D_96 W_prog_6_method_16_code_32 11 rfl rfl) ?_
        obtain ⟨r9, F9, B9, hc9, hf⟩ := gbind hf
        refine va_calli (va_runV (As := [.int (iI (l1 + 1))]) (rest := []) ⟨hx, hb, hml, hown, hts⟩ (c_Part_continues (l := l) hc9) (cwV 1 hts (gdV k_5_108 k_5_110 ks_55 k_1_18 k_5_111) rfl rfl rfl (by decide +kernel) ⟨Nat.le_of_ble_eq_true rfl, Nat.le_of_ble_eq_true rfl⟩) (zPV X hZ6 hS6 (ci := 4) g1.1 g1.2 (r := (RX4, TX4, 13)) rfl [.int (iI (l1 + 1))]) rfl rfl hl.1 rfl (lv_room (Nat.le_of_ble_eq_true rfl)) (D_182 W_prog_6_method_16_code_32 12 rfl rfl rfl) ⟨Nat.le_of_ble_eq_true rfl, Nat.le_of_ble_eq_true rfl⟩) hS6 (fun q _ h => zAin X hS6 q h) (zAin X hS6) (fun p9 u9 t9 H9 locs9 ht9 hv9 hw9 hB9 hz9 hk9 hS9 => ?_)
        have hZ9 := zBack X ht9 hB9
        subst hw9
        obtain ⟨g10, hf⟩ := gif hf
        refine z0eq (tgt := 75) hx hb g10 (D_153 W_prog_6_method_16_code_32 15 rfl rfl rfl) (by decide) (fun h11 => ?_) (fun h11 => ?_)
        · replace hf := gpos hf h11
          refine lv_aload_n hx hb (D_42 W_prog_6_method_16_code_64 11 rfl rfl) rfl (lv_at hl 2 rfl) ?_
          refine zget (ci := 4) (C := RX4) (T := TX4) (v := .ref (ad 4 l0 (8 + 1))) (k := 8) hx hb hts inW_4 hown hK hZ9 g1.1 g1.2 rfl (by decide) k_4_142 rfl (D_180 W_prog_6_method_16_code_64 12 rfl rfl rfl) ?_
          refine lv_bipush (v := iI 6) hx hb (D_16 W_prog_6_method_16_code_64 15 rfl rfl rfl) (by decide) ?_
          refine zaldQ (t := 0) (ci := 4) (k := 8) hx hb hK rfl hZ9 g1.1 g1.2 rfl (Nat.le_of_ble_eq_true rfl) (by decide) (by decide) (D_50 W_prog_6_method_16_code_64 17 rfl rfl) ?_
          refine W.eq (g2 := F0 m 82 ls [.ref (ad 4 l0 (366 + 1))]) rfl ?_
          refine lv_iload_n hx hb (D_27 W_prog_6_method_16_code_64 18 rfl rfl) rfl (lv_at hl 1 rfl) ?_
          refine lv_aload_n hx hb (D_42 W_prog_6_method_16_code_64 19 rfl rfl) rfl (lv_at hl 2 rfl) ?_
          refine lv_iload_n hx hb (D_28 W_prog_6_method_16_code_64 20 rfl rfl) rfl (lv_at hl 0 rfl) ?_
          obtain ⟨r12, F12, B12, hc12, hf⟩ := gbind hf
          refine va_calli (va_runV (As := [.int (iI (B 4 l0 360 l1))]) (rest := [.int (iI l1), .ref (ad 4 l0 (366 + 1))]) ⟨hx, hb, hml, hown, hts⟩ (c_Part_tiedPitches (l := l) hc12) (cwV 1 hts (gdV k_5_37 k_5_38 k_5_39 k_1_18 k_5_40) rfl rfl rfl (by decide +kernel) ⟨Nat.le_of_ble_eq_true rfl, Nat.le_of_ble_eq_true rfl⟩) (zPV X hZ9 hS9 (ci := 4) g1.1 g1.2 (r := (RX4, TX4, 13)) rfl [.int (iI (B 4 l0 360 l1))]) rfl rfl hl.1 rfl (lv_room (Nat.le_of_ble_eq_true rfl)) (D_182 W_prog_6_method_16_code_64 21 rfl rfl rfl) ⟨Nat.le_of_ble_eq_true rfl, Nat.le_of_ble_eq_true rfl⟩) hS9 (fun q _ h => zAin X hS9 q h) (zAin X hS9) (fun p12 u12 t12 H12 locs12 ht12 hv12 hw12 hB12 hz12 hk12 hS12 => ?_)
          have hZ12 := zBack X ht12 hB12
          subst hw12
          refine zast (ci := 4) (k := 366) hx hb hK rfl hZ12 hS12 g1.1 g1.2 rfl (Nat.le_of_ble_eq_true rfl) g5.1 g5.2 (D_79 W_prog_6_method_16_code_64 24 rfl rfl) (fun H13 locs13 hZ13 hS13 => ?_)
          exact b_Part_hold_89 X ih hf hZ13 hS13 (lv_sub hl [1, 2] rfl)
        · replace hf := gneg hf h11
          refine lv_aload_n hx hb (D_42 W_prog_6_method_16_code_32 18 rfl rfl) rfl (lv_at hl 2 rfl) ?_
          refine zget (ci := 4) (C := RX4) (T := TX4) (v := .ref (ad 4 l0 (8 + 1))) (k := 8) hx hb hts inW_4 hown hK hZ9 g1.1 g1.2 rfl (by decide) k_4_142 rfl (D_180 W_prog_6_method_16_code_32 19 rfl rfl rfl) ?_
          refine lv_bipush (v := iI 6) hx hb (D_16 W_prog_6_method_16_code_32 22 rfl rfl rfl) (by decide) ?_
          refine zaldQ (t := 0) (ci := 4) (k := 8) hx hb hK rfl hZ9 g1.1 g1.2 rfl (Nat.le_of_ble_eq_true rfl) (by decide) (by decide) (D_50 W_prog_6_method_16_code_32 24 rfl rfl) ?_
          refine W.eq (g2 := F0 m 57 ls [.ref (ad 4 l0 (366 + 1))]) rfl ?_
          refine lv_iload_n hx hb (D_27 W_prog_6_method_16_code_32 25 rfl rfl) rfl (lv_at hl 1 rfl) ?_
          refine lv_iconst (v := iI 1) hx hb (D_4 W_prog_6_method_16_code_32 26 rfl rfl) rfl ?_
          refine lv_aload_n hx hb (D_42 W_prog_6_method_16_code_32 27 rfl rfl) rfl (lv_at hl 2 rfl) ?_
          refine zget (ci := 4) (C := RX4) (T := TX4) (v := .ref (ad 4 l0 (5 + 1))) (k := 5) hx hb hts inW_4 hown hK hZ9 g1.1 g1.2 rfl (by decide) k_4_130 rfl (D_180 W_prog_6_method_16_code_32 28 rfl rfl rfl) ?_
          refine lv_iload_n hx hb (D_28 W_prog_6_method_16_code_32 31 rfl rfl) rfl (lv_at hl 0 rfl) ?_
          obtain ⟨g14, hf⟩ := gif hf
          refine zaldR (t := 1) (x := 7) (ci := 4) (k := 5) hx hb hK rfl rfl hZ9 g1.1 g1.2 rfl (Nat.le_of_ble_eq_true rfl) g14.1 g14.2 (D_50 W_prog_6_method_16_code_64 0 rfl rfl) ?_
          obtain ⟨g15, hf⟩ := gif hf
          refine zunrf g15.1 ?_
          refine zget (ci := 1) (C := RX1) (T := TX1) (v := .int (iI (F9 1 (B9 4 l0 5 (B 4 l0 360 l1)) 10))) (k := 10) hx hb hts inW_1 hown hK hZ9 g15.1 g15.2 rfl (by decide) k_2_54 rfl (D_180 W_prog_6_method_16_code_64 1 rfl rfl rfl) ?_
          refine zshl_r hx hb (D_120 W_prog_6_method_16_code_64 4 rfl rfl) ?_
          refine lv_iconst (v := iI 1) hx hb (D_4 W_prog_6_method_16_code_64 5 rfl rfl) rfl ?_
          refine zsub hx hb (D_100 W_prog_6_method_16_code_64 6 rfl rfl) ?_
          refine zast (ci := 4) (k := 366) hx hb hK rfl hZ9 hS9 g1.1 g1.2 rfl (Nat.le_of_ble_eq_true rfl) g5.1 g5.2 (D_79 W_prog_6_method_16_code_64 7 rfl rfl) (fun H16 locs16 hZ16 hS16 => ?_)
          refine lv_goto (tgt := 89) hx hb (D_167 W_prog_6_method_16_code_64 8 rfl rfl rfl) (by decide) ?_
          exact b_Part_hold_89 X ih hf hZ16 hS16 (lv_sub hl [1, 2] rfl)
      · replace hf := gneg hf h8
        refine lv_aload_n hx hb (D_42 W_prog_6_method_16_code_0 27 rfl rfl) rfl (lv_at hl 2 rfl) ?_
        refine zget (ci := 4) (C := RX4) (T := TX4) (v := .ref (ad 4 l0 (8 + 1))) (k := 8) hx hb hts inW_4 hown hK hZ6 g1.1 g1.2 rfl (by decide) k_4_142 rfl (D_180 W_prog_6_method_16_code_0 28 rfl rfl rfl) ?_
        refine lv_bipush (v := iI 6) hx hb (D_16 W_prog_6_method_16_code_0 31 rfl rfl rfl) (by decide) ?_
        refine zaldQ (t := 0) (ci := 4) (k := 8) hx hb hK rfl hZ6 g1.1 g1.2 rfl (Nat.le_of_ble_eq_true rfl) (by decide) (by decide) (D_50 W_prog_6_method_16_code_32 1 rfl rfl) ?_
        refine W.eq (g2 := F0 m 34 ls [.ref (ad 4 l0 (366 + 1))]) rfl ?_
        refine lv_iload_n hx hb (D_27 W_prog_6_method_16_code_32 2 rfl rfl) rfl (lv_at hl 1 rfl) ?_
        refine lv_iconst (v := iI 0) hx hb (D_3 W_prog_6_method_16_code_32 3 rfl rfl) rfl ?_
        refine zast (ci := 4) (k := 366) hx hb hK rfl hZ6 hS6 g1.1 g1.2 rfl (Nat.le_of_ble_eq_true rfl) g5.1 g5.2 (D_79 W_prog_6_method_16_code_32 4 rfl rfl) (fun H17 locs17 hZ17 hS17 => ?_)
        refine lv_goto (tgt := 89) hx hb (D_167 W_prog_6_method_16_code_32 5 rfl rfl rfl) (by decide) ?_
        exact b_Part_hold_89 X ih hf hZ17 hS17 (lv_sub hl [1, 2] rfl)

def f_Part_hold (K : zK) (l0 : Int) (F : zF) (B : zB) : zO := f_Part_hold_2 K K.1 0 l0 F B
set_option maxHeartbeats 4000000 in
set_option maxRecDepth 100000 in
theorem c_Part_hold {l : Launch} {D : va_G} {ca : Nat → ClassId} {ad : Nat → Int → Nat → Nat} {L : List Nat} {aS vS : Nat → Nat} {sz : Nat} {K : zK}  {l0 : Int} {F F9 : zF} {B B9 : zB} {r : Int} (hf : f_Part_hold K l0 F B = some (r, F9, B9)) : Met l ({ cls := "StaveHouse$Part", name := "hold", desc := "()V" } : Jvm.MethodName) (Cond.code ({ cls := "StaveHouse$Part", name := "hold", desc := "()V" } : Jvm.MethodName) prog_6_method_16_code 3 (Option.none : Option Jvm.ClassFile.FieldType) :: wAll) ({ frames := 3, cells := 0, slots := 0, locals := 67 } : Room) (va_Pc [.ref (ad 4 l0 0)] (zPre D ca ad lnC K.2 L aS vS F B sz)) (Q_Part_hold K D ca ad L r F9 B9 (zA L sz)) 0 0 (zA L sz) := by
  refine zMet (Qc := Q_Part_hold K D ca ad L r F9 B9) (lv := [(0, .ref (ad 4 l0 0))]) (by decide) (Nat.le_of_ble_eq_true rfl) rfl (fun A p e s m below meth c ls X hZ hS hl => ?_)
  obtain ⟨hx, hb, hr, hml, hown, hts, hlk, hK, hA, hL, hX⟩ := id X
  replace hf : (f_Part_hold_2 K K.1 0 l0 F B) = some (r, F9, B9) := hf
  refine lv_iconst (v := iI 0) hx hb (D_3 W_prog_6_method_16_code_0 0 rfl rfl) rfl ?_
  refine lv_istore_n (lv' := [(1, .int (iI 0)), (0, .ref (ad 4 l0 0))]) hx hb (D_60 W_prog_6_method_16_code_0 1 rfl rfl) rfl hl (by decide) rfl (fun ls hl => ?_)
  exact b_Part_hold_2 X hf hZ hS (lv_sub hl [0, 1] rfl)

