theorem k_1_191 : (Jvm.Cond.fieldLink "StaveHouse$Walker" (28 : Nat) "StaveHouse$Walker" "part" "LStaveHouse$Part;") ∈ wAll := wA_1 (j := 191) rfl rfl
theorem k_1_194 : (Jvm.Cond.fieldLink "StaveHouse$Walker" (39 : Nat) "StaveHouse$Walker" "loud" "I") ∈ wAll := wA_1 (j := 194) rfl rfl
theorem k_1_196 : (Jvm.Cond.fieldLink "StaveHouse$Walker" (45 : Nat) "StaveHouse$Walker" "brackets" "I") ∈ wAll := wA_1 (j := 196) rfl rfl
theorem k_1_197 : (Jvm.Cond.fieldLink "StaveHouse$Walker" (48 : Nat) "StaveHouse$Walker" "bracket" "I") ∈ wAll := wA_1 (j := 197) rfl rfl
theorem k_1_198 : (Jvm.Cond.fieldLink "StaveHouse$Walker" (51 : Nat) "StaveHouse$Walker" "bracketPlace" "I") ∈ wAll := wA_1 (j := 198) rfl rfl
theorem k_1_199 : (Jvm.Cond.fieldLink "StaveHouse$Walker" (54 : Nat) "StaveHouse$Walker" "tupletFirst" "I") ∈ wAll := wA_1 (j := 199) rfl rfl
theorem k_1_200 : (Jvm.Cond.fieldLink "StaveHouse$Walker" (57 : Nat) "StaveHouse$Walker" "tupletSecond" "I") ∈ wAll := wA_1 (j := 200) rfl rfl
theorem k_1_201 : (Jvm.Cond.fieldLink "StaveHouse$Walker" (60 : Nat) "StaveHouse$Walker" "come" "J") ∈ wAll := wA_1 (j := 201) rfl rfl
theorem k_1_109 : (Jvm.Cond.fieldLink "StaveHouse$Walker" (95 : Nat) "StaveHouse$Parser" "place" "[I") ∈ wAll := wA_1 (j := 109) rfl rfl
theorem k_1_111 : (Jvm.Cond.fieldLink "StaveHouse$Walker" (117 : Nat) "StaveHouse$Parser" "first" "[I") ∈ wAll := wA_1 (j := 111) rfl rfl
theorem k_1_113 : (Jvm.Cond.fieldLink "StaveHouse$Walker" (136 : Nat) "StaveHouse$Parser" "second" "[I") ∈ wAll := wA_1 (j := 113) rfl rfl
theorem k_4_139 : (Jvm.Cond.fieldLink "StaveHouse$Walker" (139 : Nat) "StaveHouse$Part" "eventCount" "I") ∈ wAll := wA_4 (j := 139) rfl rfl
theorem k_5_31 : (Jvm.Cond.methodLink "StaveHouse$Part" (55 : Nat) ({ cls := "StaveHouse$Piece", name := "barLength", desc := "()J" } : Jvm.MethodName)) ∈ wAll := wA_5 (j := 31) rfl rfl
theorem k_5_58 : (Jvm.Cond.static ({ cls := "java/lang/Math", name := "min", desc := "(JJ)J" } : Jvm.MethodName)) ∈ wAll := wA_5 (j := 58) rfl rfl
theorem k_5_59 : (Jvm.Cond.code ({ cls := "java/lang/Math", name := "min", desc := "(JJ)J" } : Jvm.MethodName) prog_20_method_70_code (4 : Nat) (Option.some Jvm.ClassFile.FieldType.long)) ∈ wAll := wA_5 (j := 59) rfl rfl
theorem k_2_28 : (Jvm.Cond.fieldLink "StaveHouse$Part" (172 : Nat) "StaveHouse$Event" "value" "I") ∈ wAll := wA_2 (j := 28) rfl rfl
theorem k_5_76 : (Jvm.Cond.constantLong "StaveHouse$Part" (157 : Nat) (1587600 : Int64)) ∈ wAll := wA_5 (j := 76) rfl rfl
theorem k_2_210 : (Jvm.Cond.fieldLink "StaveHouse$Part" (159 : Nat) "StaveHouse$Piece" "above" "I") ∈ wAll := wA_2 (j := 210) rfl rfl
theorem k_2_215 : (Jvm.Cond.fieldLink "StaveHouse$Part" (162 : Nat) "StaveHouse$Piece" "below" "I") ∈ wAll := wA_2 (j := 215) rfl rfl
theorem k_8_62 : (Jvm.Cond.constantLong "StaveHouse$SoundFile" (94 : Nat) (256 : Int64)) ∈ wAll := wA_8 (j := 62) rfl rfl
theorem k_1_7 : (Jvm.Cond.initialized "StaveHouse$Scribe") ∈ wAll := wA_1 (j := 7) rfl rfl
theorem k_2_50 : (Jvm.Cond.fieldLink "StaveHouse$Scribe" (115 : Nat) "StaveHouse$Event" "count" "I") ∈ wAll := wA_2 (j := 50) rfl rfl
theorem k_2_106 : (Jvm.Cond.fieldLink "StaveHouse$Scribe" (18 : Nat) "StaveHouse$Scribe" "hasTone" "[Z") ∈ wAll := wA_2 (j := 106) rfl rfl
theorem k_2_218 : (Jvm.Cond.fieldLink "StaveHouse$Parser" (138 : Nat) "StaveHouse$Piece" "tempo" "I") ∈ wAll := wA_2 (j := 218) rfl rfl
theorem k_1_202 : (Jvm.Cond.fieldLink "StaveHouse$Walker" (75 : Nat) "StaveHouse$Walker" "farthest" "J") ∈ wAll := wA_1 (j := 202) rfl rfl
theorem k_4_216 : (Jvm.Cond.methodLink "StaveHouse$Walker" (148 : Nat) ({ cls := "StaveHouse$Walker", name := "slowed", desc := "(I)I" } : Jvm.MethodName)) ∈ wAll := wA_4 (j := 216) rfl rfl
theorem k_4_218 : (Jvm.Cond.instanceMethod ({ cls := "StaveHouse$Walker", name := "slowed", desc := "(I)I" } : Jvm.MethodName)) ∈ wAll := wA_4 (j := 218) rfl rfl
theorem ks_39 : (Jvm.Cond.selects "StaveHouse$Walker" ({ cls := "StaveHouse$Walker", name := "slowed", desc := "(I)I" } : Jvm.MethodName) ({ cls := "StaveHouse$Walker", name := "slowed", desc := "(I)I" } : Jvm.MethodName)) ∈ wAll := wA_s (j := 39) rfl rfl
theorem k_4_219 : (Jvm.Cond.code ({ cls := "StaveHouse$Walker", name := "slowed", desc := "(I)I" } : Jvm.MethodName) prog_13_method_12_code (5 : Nat) (Option.some Jvm.ClassFile.FieldType.int)) ∈ wAll := wA_4 (j := 219) rfl rfl
theorem k_4_222 : (Jvm.Cond.constantLong "StaveHouse$Walker" (152 : Nat) (6350400 : Int64)) ∈ wAll := wA_4 (j := 222) rfl rfl
theorem k_4_134 : (Jvm.Cond.fieldLink "StaveHouse$Walker" (154 : Nat) "StaveHouse$Part" "events" "[LStaveHouse$Event;") ∈ wAll := wA_4 (j := 134) rfl rfl
theorem k_2_27 : (Jvm.Cond.fieldLink "StaveHouse$Walker" (158 : Nat) "StaveHouse$Event" "length" "J") ∈ wAll := wA_2 (j := 27) rfl rfl
theorem k_2_29 : (Jvm.Cond.fieldLink "StaveHouse$Walker" (163 : Nat) "StaveHouse$Event" "value" "I") ∈ wAll := wA_2 (j := 29) rfl rfl
theorem k_2_31 : (Jvm.Cond.fieldLink "StaveHouse$Walker" (166 : Nat) "StaveHouse$Event" "tupletFirst" "I") ∈ wAll := wA_2 (j := 31) rfl rfl
theorem k_2_33 : (Jvm.Cond.fieldLink "StaveHouse$Walker" (167 : Nat) "StaveHouse$Event" "tupletSecond" "I") ∈ wAll := wA_2 (j := 33) rfl rfl
theorem k_2_35 : (Jvm.Cond.fieldLink "StaveHouse$Walker" (168 : Nat) "StaveHouse$Event" "bracket" "I") ∈ wAll := wA_2 (j := 35) rfl rfl
theorem k_2_37 : (Jvm.Cond.fieldLink "StaveHouse$Walker" (169 : Nat) "StaveHouse$Event" "bracketPlace" "I") ∈ wAll := wA_2 (j := 37) rfl rfl
theorem k_1_121 : (Jvm.Cond.fieldLink "StaveHouse$Walker" (170 : Nat) "StaveHouse$Parser" "marks" "[I") ∈ wAll := wA_1 (j := 121) rfl rfl
theorem k_2_41 : (Jvm.Cond.fieldLink "StaveHouse$Walker" (173 : Nat) "StaveHouse$Event" "marks" "I") ∈ wAll := wA_2 (j := 41) rfl rfl
theorem k_2_44 : (Jvm.Cond.fieldLink "StaveHouse$Walker" (175 : Nat) "StaveHouse$Event" "loud" "I") ∈ wAll := wA_2 (j := 44) rfl rfl
theorem k_2_47 : (Jvm.Cond.fieldLink "StaveHouse$Walker" (176 : Nat) "StaveHouse$Event" "token" "I") ∈ wAll := wA_2 (j := 47) rfl rfl
theorem k_2_53 : (Jvm.Cond.fieldLink "StaveHouse$Walker" (179 : Nat) "StaveHouse$Event" "count" "I") ∈ wAll := wA_2 (j := 53) rfl rfl
theorem k_1_119 : (Jvm.Cond.fieldLink "StaveHouse$Walker" (182 : Nat) "StaveHouse$Parser" "count" "[I") ∈ wAll := wA_1 (j := 119) rfl rfl
theorem k_5_108 : (Jvm.Cond.methodLink "StaveHouse$Part" (194 : Nat) ({ cls := "StaveHouse$Part", name := "continues", desc := "(I)Z" } : Jvm.MethodName)) ∈ wAll := wA_5 (j := 108) rfl rfl
theorem k_5_110 : (Jvm.Cond.instanceMethod ({ cls := "StaveHouse$Part", name := "continues", desc := "(I)Z" } : Jvm.MethodName)) ∈ wAll := wA_5 (j := 110) rfl rfl
theorem ks_55 : (Jvm.Cond.selects "StaveHouse$Part" ({ cls := "StaveHouse$Part", name := "continues", desc := "(I)Z" } : Jvm.MethodName) ({ cls := "StaveHouse$Part", name := "continues", desc := "(I)Z" } : Jvm.MethodName)) ∈ wAll := wA_s (j := 55) rfl rfl
theorem k_5_111 : (Jvm.Cond.code ({ cls := "StaveHouse$Part", name := "continues", desc := "(I)Z" } : Jvm.MethodName) prog_6_method_15_code (2 : Nat) (Option.some Jvm.ClassFile.FieldType.boolean)) ∈ wAll := wA_5 (j := 111) rfl rfl
theorem k_8_49 : (Jvm.Cond.methodLink "StaveHouse$SoundFile" (90 : Nat) ({ cls := "StaveHouse$SoundFile", name := "take", desc := "()I" } : Jvm.MethodName)) ∈ wAll := wA_8 (j := 49) rfl rfl
theorem k_8_51 : (Jvm.Cond.instanceMethod ({ cls := "StaveHouse$SoundFile", name := "take", desc := "()I" } : Jvm.MethodName)) ∈ wAll := wA_8 (j := 51) rfl rfl
theorem ks_95 : (Jvm.Cond.selects "StaveHouse$SoundFile" ({ cls := "StaveHouse$SoundFile", name := "take", desc := "()I" } : Jvm.MethodName) ({ cls := "StaveHouse$SoundFile", name := "take", desc := "()I" } : Jvm.MethodName)) ∈ wAll := wA_s (j := 95) rfl rfl
theorem k_8_52 : (Jvm.Cond.code ({ cls := "StaveHouse$SoundFile", name := "take", desc := "()I" } : Jvm.MethodName) prog_10_method_5_code (1 : Nat) (Option.some Jvm.ClassFile.FieldType.int)) ∈ wAll := wA_8 (j := 52) rfl rfl
theorem k_8_58 : (Jvm.Cond.methodLink "StaveHouse$SoundFile" (54 : Nat) ({ cls := "StaveHouse$SoundFile", name := "takeWide", desc := "(I)J" } : Jvm.MethodName)) ∈ wAll := wA_8 (j := 58) rfl rfl
theorem k_8_60 : (Jvm.Cond.instanceMethod ({ cls := "StaveHouse$SoundFile", name := "takeWide", desc := "(I)J" } : Jvm.MethodName)) ∈ wAll := wA_8 (j := 60) rfl rfl
theorem ks_97 : (Jvm.Cond.selects "StaveHouse$SoundFile" ({ cls := "StaveHouse$SoundFile", name := "takeWide", desc := "(I)J" } : Jvm.MethodName) ({ cls := "StaveHouse$SoundFile", name := "takeWide", desc := "(I)J" } : Jvm.MethodName)) ∈ wAll := wA_s (j := 97) rfl rfl
theorem k_8_61 : (Jvm.Cond.code ({ cls := "StaveHouse$SoundFile", name := "takeWide", desc := "(I)J" } : Jvm.MethodName) prog_10_method_7_code (5 : Nat) (Option.some Jvm.ClassFile.FieldType.long)) ∈ wAll := wA_8 (j := 61) rfl rfl
theorem k_8_92 : (Jvm.Cond.methodLink "StaveHouse$SoundFile" (142 : Nat) ({ cls := "StaveHouse$SoundFile", name := "takeData", desc := "()I" } : Jvm.MethodName)) ∈ wAll := wA_8 (j := 92) rfl rfl
theorem k_8_94 : (Jvm.Cond.instanceMethod ({ cls := "StaveHouse$SoundFile", name := "takeData", desc := "()I" } : Jvm.MethodName)) ∈ wAll := wA_8 (j := 94) rfl rfl
theorem ks_104 : (Jvm.Cond.selects "StaveHouse$SoundFile" ({ cls := "StaveHouse$SoundFile", name := "takeData", desc := "()I" } : Jvm.MethodName) ({ cls := "StaveHouse$SoundFile", name := "takeData", desc := "()I" } : Jvm.MethodName)) ∈ wAll := wA_s (j := 104) rfl rfl
theorem k_8_95 : (Jvm.Cond.code ({ cls := "StaveHouse$SoundFile", name := "takeData", desc := "()I" } : Jvm.MethodName) prog_10_method_10_code (2 : Nat) (Option.some Jvm.ClassFile.FieldType.int)) ∈ wAll := wA_8 (j := 95) rfl rfl
theorem k_8_117 : (Jvm.Cond.methodLink "StaveHouse$SoundFile" (149 : Nat) ({ cls := "StaveHouse$SoundFile", name := "beginSound", desc := "(III)V" } : Jvm.MethodName)) ∈ wAll := wA_8 (j := 117) rfl rfl
theorem k_8_119 : (Jvm.Cond.instanceMethod ({ cls := "StaveHouse$SoundFile", name := "beginSound", desc := "(III)V" } : Jvm.MethodName)) ∈ wAll := wA_8 (j := 119) rfl rfl
theorem ks_109 : (Jvm.Cond.selects "StaveHouse$SoundFile" ({ cls := "StaveHouse$SoundFile", name := "beginSound", desc := "(III)V" } : Jvm.MethodName) ({ cls := "StaveHouse$SoundFile", name := "beginSound", desc := "(III)V" } : Jvm.MethodName)) ∈ wAll := wA_s (j := 109) rfl rfl
theorem k_8_120 : (Jvm.Cond.code ({ cls := "StaveHouse$SoundFile", name := "beginSound", desc := "(III)V" } : Jvm.MethodName) prog_10_method_16_code (4 : Nat) (Option.none : Option Jvm.ClassFile.FieldType)) ∈ wAll := wA_8 (j := 120) rfl rfl
theorem k_8_122 : (Jvm.Cond.methodLink "StaveHouse$SoundFile" (152 : Nat) ({ cls := "StaveHouse$SoundFile", name := "endSound", desc := "(II)V" } : Jvm.MethodName)) ∈ wAll := wA_8 (j := 122) rfl rfl
theorem k_8_124 : (Jvm.Cond.instanceMethod ({ cls := "StaveHouse$SoundFile", name := "endSound", desc := "(II)V" } : Jvm.MethodName)) ∈ wAll := wA_8 (j := 124) rfl rfl
theorem ks_110 : (Jvm.Cond.selects "StaveHouse$SoundFile" ({ cls := "StaveHouse$SoundFile", name := "endSound", desc := "(II)V" } : Jvm.MethodName) ({ cls := "StaveHouse$SoundFile", name := "endSound", desc := "(II)V" } : Jvm.MethodName)) ∈ wAll := wA_s (j := 110) rfl rfl
theorem k_8_125 : (Jvm.Cond.code ({ cls := "StaveHouse$SoundFile", name := "endSound", desc := "(II)V" } : Jvm.MethodName) prog_10_method_17_code (5 : Nat) (Option.none : Option Jvm.ClassFile.FieldType)) ∈ wAll := wA_8 (j := 125) rfl rfl
theorem k_2_105 : (Jvm.Cond.fieldLink "StaveHouse$Scribe" (91 : Nat) "StaveHouse$Scribe" "next" "I") ∈ wAll := wA_2 (j := 105) rfl rfl
theorem k_8_156 : (Jvm.Cond.methodLink "StaveHouse$Scribe" (105 : Nat) ({ cls := "StaveHouse$Scribe", name := "gridPlace", desc := "(J)J" } : Jvm.MethodName)) ∈ wAll := wA_8 (j := 156) rfl rfl
theorem k_8_158 : (Jvm.Cond.instanceMethod ({ cls := "StaveHouse$Scribe", name := "gridPlace", desc := "(J)J" } : Jvm.MethodName)) ∈ wAll := wA_8 (j := 158) rfl rfl
theorem ks_114 : (Jvm.Cond.selects "StaveHouse$Scribe" ({ cls := "StaveHouse$Scribe", name := "gridPlace", desc := "(J)J" } : Jvm.MethodName) ({ cls := "StaveHouse$Scribe", name := "gridPlace", desc := "(J)J" } : Jvm.MethodName)) ∈ wAll := wA_s (j := 114) rfl rfl
theorem k_8_159 : (Jvm.Cond.code ({ cls := "StaveHouse$Scribe", name := "gridPlace", desc := "(J)J" } : Jvm.MethodName) prog_9_method_4_code (5 : Nat) (Option.some Jvm.ClassFile.FieldType.long)) ∈ wAll := wA_8 (j := 159) rfl rfl
theorem k_2_103 : (Jvm.Cond.fieldLink "StaveHouse$Scribe" (109 : Nat) "StaveHouse$Scribe" "from" "J") ∈ wAll := wA_2 (j := 103) rfl rfl
theorem k_2_104 : (Jvm.Cond.fieldLink "StaveHouse$Scribe" (98 : Nat) "StaveHouse$Scribe" "to" "J") ∈ wAll := wA_2 (j := 104) rfl rfl
theorem k_8_163 : (Jvm.Cond.methodLink "StaveHouse$Scribe" (102 : Nat) ({ cls := "java/lang/Math", name := "max", desc := "(JJ)J" } : Jvm.MethodName)) ∈ wAll := wA_8 (j := 163) rfl rfl
theorem k_8_164 : (Jvm.Cond.methodLink "StaveHouse$Scribe" (112 : Nat) ({ cls := "java/lang/Math", name := "min", desc := "(JJ)J" } : Jvm.MethodName)) ∈ wAll := wA_8 (j := 164) rfl rfl
theorem k_5_88 : (Jvm.Cond.code ({ cls := "StaveHouse", name := "nextValue", desc := "(IIII)I" } : Jvm.MethodName) prog_1_method_42_code (11 : Nat) (Option.some Jvm.ClassFile.FieldType.int)) ∈ wAll := wA_5 (j := 88) rfl rfl
theorem k_5_87 : (Jvm.Cond.static ({ cls := "StaveHouse", name := "nextValue", desc := "(IIII)I" } : Jvm.MethodName)) ∈ wAll := wA_5 (j := 87) rfl rfl
theorem k_8_226 : (Jvm.Cond.methodLink "StaveHouse$Scribe" (116 : Nat) ({ cls := "StaveHouse$Scribe", name := "spell", desc := "(I)V" } : Jvm.MethodName)) ∈ wAll := wA_8 (j := 226) rfl rfl
theorem k_8_228 : (Jvm.Cond.instanceMethod ({ cls := "StaveHouse$Scribe", name := "spell", desc := "(I)V" } : Jvm.MethodName)) ∈ wAll := wA_8 (j := 228) rfl rfl
theorem ks_122 : (Jvm.Cond.selects "StaveHouse$Scribe" ({ cls := "StaveHouse$Scribe", name := "spell", desc := "(I)V" } : Jvm.MethodName) ({ cls := "StaveHouse$Scribe", name := "spell", desc := "(I)V" } : Jvm.MethodName)) ∈ wAll := wA_s (j := 122) rfl rfl
theorem k_8_229 : (Jvm.Cond.code ({ cls := "StaveHouse$Scribe", name := "spell", desc := "(I)V" } : Jvm.MethodName) prog_9_method_8_code (7 : Nat) (Option.none : Option Jvm.ClassFile.FieldType)) ∈ wAll := wA_8 (j := 229) rfl rfl
theorem k_9_19 : (Jvm.Cond.methodLink "StaveHouse$Performance" (304 : Nat) ({ cls := "StaveHouse$Performance", name := "rise", desc := "(I)I" } : Jvm.MethodName)) ∈ wAll := wA_9 (j := 19) rfl rfl
theorem k_9_20 : (Jvm.Cond.static ({ cls := "StaveHouse$Performance", name := "rise", desc := "(I)I" } : Jvm.MethodName)) ∈ wAll := wA_9 (j := 20) rfl rfl
theorem k_9_21 : (Jvm.Cond.code ({ cls := "StaveHouse$Performance", name := "rise", desc := "(I)I" } : Jvm.MethodName) prog_7_method_28_code (1 : Nat) (Option.some Jvm.ClassFile.FieldType.int)) ∈ wAll := wA_9 (j := 21) rfl rfl
theorem k_9_57 : (Jvm.Cond.methodLink "StaveHouse$Study" (150 : Nat) ({ cls := "StaveHouse$Study", name := "alterationOf", desc := "(I)I" } : Jvm.MethodName)) ∈ wAll := wA_9 (j := 57) rfl rfl
theorem k_9_59 : (Jvm.Cond.instanceMethod ({ cls := "StaveHouse$Study", name := "alterationOf", desc := "(I)I" } : Jvm.MethodName)) ∈ wAll := wA_9 (j := 59) rfl rfl
theorem ks_128 : (Jvm.Cond.selects "StaveHouse$Study" ({ cls := "StaveHouse$Study", name := "alterationOf", desc := "(I)I" } : Jvm.MethodName) ({ cls := "StaveHouse$Study", name := "alterationOf", desc := "(I)I" } : Jvm.MethodName)) ∈ wAll := wA_s (j := 128) rfl rfl
theorem k_9_60 : (Jvm.Cond.code ({ cls := "StaveHouse$Study", name := "alterationOf", desc := "(I)I" } : Jvm.MethodName) prog_11_method_14_code (2 : Nat) (Option.some Jvm.ClassFile.FieldType.int)) ∈ wAll := wA_9 (j := 60) rfl rfl
theorem k_6_26 : (Jvm.Cond.methodLink "StaveHouse$Study" (107 : Nat) ({ cls := "StaveHouse$Event", name := "tone", desc := "(I)I" } : Jvm.MethodName)) ∈ wAll := wA_6 (j := 26) rfl rfl
theorem k_3_81 : (Jvm.Cond.methodLink "java/lang/String" (505 : Nat) ({ cls := "java/lang/String", name := "length", desc := "()I" } : Jvm.MethodName)) ∈ wAll := wA_3 (j := 81) rfl rfl
theorem k_3_89 : (Jvm.Cond.methodLink "java/lang/String" (637 : Nat) ({ cls := "java/lang/StringLatin1", name := "indexOf", desc := "([BIII)I" } : Jvm.MethodName)) ∈ wAll := wA_3 (j := 89) rfl rfl
theorem k_3_90 : (Jvm.Cond.static ({ cls := "java/lang/StringLatin1", name := "indexOf", desc := "([BIII)I" } : Jvm.MethodName)) ∈ wAll := wA_3 (j := 90) rfl rfl
theorem k_3_91 : (Jvm.Cond.code ({ cls := "java/lang/StringLatin1", name := "indexOf", desc := "([BIII)I" } : Jvm.MethodName) prog_22_method_22_code (4 : Nat) (Option.some Jvm.ClassFile.FieldType.int)) ∈ wAll := wA_3 (j := 91) rfl rfl
theorem k_1_137 : (Jvm.Cond.fieldLink "StaveHouse$Parser" (181 : Nat) "StaveHouse$Parser" "length" "I") ∈ wAll := wA_1 (j := 137) rfl rfl
theorem k_4_19 : (Jvm.Cond.methodLink "StaveHouse$Parser" (296 : Nat) ({ cls := "java/lang/Math", name := "max", desc := "(II)I" } : Jvm.MethodName)) ∈ wAll := wA_4 (j := 19) rfl rfl
theorem k_4_87 : (Jvm.Cond.methodLink "StaveHouse$Parser" (128 : Nat) ({ cls := "StaveHouse$Parser", name := "takeTime", desc := "(LStaveHouse$Piece;)Z" } : Jvm.MethodName)) ∈ wAll := wA_4 (j := 87) rfl rfl
theorem k_4_89 : (Jvm.Cond.instanceMethod ({ cls := "StaveHouse$Parser", name := "takeTime", desc := "(LStaveHouse$Piece;)Z" } : Jvm.MethodName)) ∈ wAll := wA_4 (j := 89) rfl rfl
theorem ks_32 : (Jvm.Cond.selects "StaveHouse$Parser" ({ cls := "StaveHouse$Parser", name := "takeTime", desc := "(LStaveHouse$Piece;)Z" } : Jvm.MethodName) ({ cls := "StaveHouse$Parser", name := "takeTime", desc := "(LStaveHouse$Piece;)Z" } : Jvm.MethodName)) ∈ wAll := wA_s (j := 32) rfl rfl
theorem k_4_90 : (Jvm.Cond.code ({ cls := "StaveHouse$Parser", name := "takeTime", desc := "(LStaveHouse$Piece;)Z" } : Jvm.MethodName) prog_5_method_7_code (2 : Nat) (Option.some Jvm.ClassFile.FieldType.boolean)) ∈ wAll := wA_4 (j := 90) rfl rfl
theorem k_4_81 : (Jvm.Cond.methodLink "StaveHouse$Parser" (125 : Nat) ({ cls := "StaveHouse$Parser", name := "takeKey", desc := "(LStaveHouse$Piece;)Z" } : Jvm.MethodName)) ∈ wAll := wA_4 (j := 81) rfl rfl
theorem k_4_83 : (Jvm.Cond.instanceMethod ({ cls := "StaveHouse$Parser", name := "takeKey", desc := "(LStaveHouse$Piece;)Z" } : Jvm.MethodName)) ∈ wAll := wA_4 (j := 83) rfl rfl
theorem ks_31 : (Jvm.Cond.selects "StaveHouse$Parser" ({ cls := "StaveHouse$Parser", name := "takeKey", desc := "(LStaveHouse$Piece;)Z" } : Jvm.MethodName) ({ cls := "StaveHouse$Parser", name := "takeKey", desc := "(LStaveHouse$Piece;)Z" } : Jvm.MethodName)) ∈ wAll := wA_s (j := 31) rfl rfl
theorem k_4_84 : (Jvm.Cond.code ({ cls := "StaveHouse$Parser", name := "takeKey", desc := "(LStaveHouse$Piece;)Z" } : Jvm.MethodName) prog_5_method_8_code (3 : Nat) (Option.some Jvm.ClassFile.FieldType.boolean)) ∈ wAll := wA_4 (j := 84) rfl rfl
theorem k_4_223 : (Jvm.Cond.methodLink "StaveHouse$Walker" (184 : Nat) ({ cls := "StaveHouse$Walker", name := "addPitch", desc := "(LStaveHouse$Event;I)V" } : Jvm.MethodName)) ∈ wAll := wA_4 (j := 223) rfl rfl
theorem k_4_225 : (Jvm.Cond.instanceMethod ({ cls := "StaveHouse$Walker", name := "addPitch", desc := "(LStaveHouse$Event;I)V" } : Jvm.MethodName)) ∈ wAll := wA_4 (j := 225) rfl rfl
theorem ks_40 : (Jvm.Cond.selects "StaveHouse$Walker" ({ cls := "StaveHouse$Walker", name := "addPitch", desc := "(LStaveHouse$Event;I)V" } : Jvm.MethodName) ({ cls := "StaveHouse$Walker", name := "addPitch", desc := "(LStaveHouse$Event;I)V" } : Jvm.MethodName)) ∈ wAll := wA_s (j := 40) rfl rfl
theorem k_4_226 : (Jvm.Cond.code ({ cls := "StaveHouse$Walker", name := "addPitch", desc := "(LStaveHouse$Event;I)V" } : Jvm.MethodName) prog_13_method_14_code (7 : Nat) (Option.none : Option Jvm.ClassFile.FieldType)) ∈ wAll := wA_4 (j := 226) rfl rfl
theorem k_5_41 : (Jvm.Cond.methodLink "StaveHouse$Part" (95 : Nat) ({ cls := "StaveHouse$Event", name := "sharedWith", desc := "(LStaveHouse$Event;)I" } : Jvm.MethodName)) ∈ wAll := wA_5 (j := 41) rfl rfl
theorem k_5_42 : (Jvm.Cond.instanceMethod ({ cls := "StaveHouse$Event", name := "sharedWith", desc := "(LStaveHouse$Event;)I" } : Jvm.MethodName)) ∈ wAll := wA_5 (j := 42) rfl rfl
theorem k_5_43 : (Jvm.Cond.selects "StaveHouse$Event" ({ cls := "StaveHouse$Event", name := "sharedWith", desc := "(LStaveHouse$Event;)I" } : Jvm.MethodName) ({ cls := "StaveHouse$Event", name := "sharedWith", desc := "(LStaveHouse$Event;)I" } : Jvm.MethodName)) ∈ wAll := wA_5 (j := 43) rfl rfl
theorem k_5_44 : (Jvm.Cond.code ({ cls := "StaveHouse$Event", name := "sharedWith", desc := "(LStaveHouse$Event;)I" } : Jvm.MethodName) prog_3_method_7_code (4 : Nat) (Option.some Jvm.ClassFile.FieldType.int)) ∈ wAll := wA_5 (j := 44) rfl rfl
theorem k_5_71 : (Jvm.Cond.methodLink "StaveHouse$Part" (150 : Nat) ({ cls := "StaveHouse$Part", name := "addNote", desc := "(IIJI)V" } : Jvm.MethodName)) ∈ wAll := wA_5 (j := 71) rfl rfl
theorem k_5_73 : (Jvm.Cond.instanceMethod ({ cls := "StaveHouse$Part", name := "addNote", desc := "(IIJI)V" } : Jvm.MethodName)) ∈ wAll := wA_5 (j := 73) rfl rfl
theorem ks_51 : (Jvm.Cond.selects "StaveHouse$Part" ({ cls := "StaveHouse$Part", name := "addNote", desc := "(IIJI)V" } : Jvm.MethodName) ({ cls := "StaveHouse$Part", name := "addNote", desc := "(IIJI)V" } : Jvm.MethodName)) ∈ wAll := wA_s (j := 51) rfl rfl
theorem k_5_74 : (Jvm.Cond.code ({ cls := "StaveHouse$Part", name := "addNote", desc := "(IIJI)V" } : Jvm.MethodName) prog_6_method_13_code (7 : Nat) (Option.none : Option Jvm.ClassFile.FieldType)) ∈ wAll := wA_5 (j := 74) rfl rfl
theorem k_2_30 : (Jvm.Cond.fieldLink "StaveHouse$Part" (178 : Nat) "StaveHouse$Event" "tupletFirst" "I") ∈ wAll := wA_2 (j := 30) rfl rfl
theorem k_2_32 : (Jvm.Cond.fieldLink "StaveHouse$Part" (185 : Nat) "StaveHouse$Event" "tupletSecond" "I") ∈ wAll := wA_2 (j := 32) rfl rfl
theorem k_5_37 : (Jvm.Cond.methodLink "StaveHouse$Part" (68 : Nat) ({ cls := "StaveHouse$Part", name := "tiedPitches", desc := "(I)I" } : Jvm.MethodName)) ∈ wAll := wA_5 (j := 37) rfl rfl
theorem k_5_38 : (Jvm.Cond.instanceMethod ({ cls := "StaveHouse$Part", name := "tiedPitches", desc := "(I)I" } : Jvm.MethodName)) ∈ wAll := wA_5 (j := 38) rfl rfl
theorem k_5_39 : (Jvm.Cond.selects "StaveHouse$Part" ({ cls := "StaveHouse$Part", name := "tiedPitches", desc := "(I)I" } : Jvm.MethodName) ({ cls := "StaveHouse$Part", name := "tiedPitches", desc := "(I)I" } : Jvm.MethodName)) ∈ wAll := wA_5 (j := 39) rfl rfl
theorem k_5_40 : (Jvm.Cond.code ({ cls := "StaveHouse$Part", name := "tiedPitches", desc := "(I)I" } : Jvm.MethodName) prog_6_method_7_code (2 : Nat) (Option.some Jvm.ClassFile.FieldType.int)) ∈ wAll := wA_5 (j := 40) rfl rfl
theorem W_prog_21_method_80_code_0 : chW prog_21_method_80_code 0 [42, 182, 1, 236, 153, 0, 19, 42, 180, 0, 9, 27, 28, 42, 182, 1, 249, 184, 2, 125, 167, 0, 16, 42, 180, 0, 9, 27, 28, 42, 182, 1, 249, 184, 2, 128] := chW_of (by decide +kernel)
theorem d_21_80_0 : decode prog_21_method_80_code 0 = .ok (.aload_n 0, 1) := D_42 W_prog_21_method_80_code_0 0 rfl rfl
theorem d_21_80_1 : decode prog_21_method_80_code 1 = .ok (.invokevirtual 492, 3) := D_182 W_prog_21_method_80_code_0 1 rfl rfl rfl
theorem W_prog_5_method_26_code_0 : chW prog_5_method_26_code 0 [42, 180, 0, 48, 182, 0, 122, 42, 4, 16, 32, 4, 182, 0, 131, 154, 0, 5, 3, 172, 17, 0, 128, 42, 180, 0, 135, 4, 184, 1, 40, 108, 60, 3, 61, 3] := chW_of (by decide +kernel)
theorem d_5_26_0 : decode prog_5_method_26_code 0 = .ok (.aload_n 0, 1) := D_42 W_prog_5_method_26_code_0 0 rfl rfl
theorem d_5_26_1 : decode prog_5_method_26_code 1 = .ok (.getfield 48, 3) := D_180 W_prog_5_method_26_code_0 1 rfl rfl rfl
theorem d_5_26_4 : decode prog_5_method_26_code 4 = .ok (.invokevirtual 122, 3) := D_182 W_prog_5_method_26_code_0 4 rfl rfl rfl
theorem d_5_26_7 : decode prog_5_method_26_code 7 = .ok (.aload_n 0, 1) := D_42 W_prog_5_method_26_code_0 7 rfl rfl
theorem d_5_26_8 : decode prog_5_method_26_code 8 = .ok (.iconst 1, 1) := D_4 W_prog_5_method_26_code_0 8 rfl rfl
theorem d_5_26_9 : decode prog_5_method_26_code 9 = .ok (.bipush 32, 2) := D_16 W_prog_5_method_26_code_0 9 rfl rfl rfl
theorem d_5_26_11 : decode prog_5_method_26_code 11 = .ok (.iconst 1, 1) := D_4 W_prog_5_method_26_code_0 11 rfl rfl
theorem d_5_26_12 : decode prog_5_method_26_code 12 = .ok (.invokevirtual 131, 3) := D_182 W_prog_5_method_26_code_0 12 rfl rfl rfl
theorem W_prog_5_method_6_code_0 : chW prog_5_method_6_code 0 [42, 182, 0, 112, 61, 42, 89, 180, 0, 69, 28, 128, 181, 0, 69, 42, 180, 0, 48, 182, 0, 122, 28, 4, 160, 0, 9, 42, 43, 182, 0, 125, 172, 28, 5, 160] := chW_of (by decide +kernel)
theorem d_5_6_0 : decode prog_5_method_6_code 0 = .ok (.aload_n 0, 1) := D_42 W_prog_5_method_6_code_0 0 rfl rfl
theorem d_5_6_1 : decode prog_5_method_6_code 1 = .ok (.invokevirtual 112, 3) := D_182 W_prog_5_method_6_code_0 1 rfl rfl rfl
theorem d_5_6_4 : decode prog_5_method_6_code 4 = .ok (.istore_n 2, 1) := D_61 W_prog_5_method_6_code_0 4 rfl rfl
theorem d_5_6_5 : decode prog_5_method_6_code 5 = .ok (.aload_n 0, 1) := D_42 W_prog_5_method_6_code_0 5 rfl rfl
theorem d_5_6_6 : decode prog_5_method_6_code 6 = .ok (.dup, 1) := D_89 W_prog_5_method_6_code_0 6 rfl rfl
theorem d_5_6_7 : decode prog_5_method_6_code 7 = .ok (.getfield 69, 3) := D_180 W_prog_5_method_6_code_0 7 rfl rfl rfl
theorem d_5_6_10 : decode prog_5_method_6_code 10 = .ok (.iload_n 2, 1) := D_28 W_prog_5_method_6_code_0 10 rfl rfl
theorem d_5_6_11 : decode prog_5_method_6_code 11 = .ok (.ior, 1) := D_128 W_prog_5_method_6_code_0 11 rfl rfl
theorem d_5_6_12 : decode prog_5_method_6_code 12 = .ok (.putfield 69, 3) := D_181 W_prog_5_method_6_code_0 12 rfl rfl rfl
theorem d_5_6_15 : decode prog_5_method_6_code 15 = .ok (.aload_n 0, 1) := D_42 W_prog_5_method_6_code_0 15 rfl rfl
theorem d_5_6_16 : decode prog_5_method_6_code 16 = .ok (.getfield 48, 3) := D_180 W_prog_5_method_6_code_0 16 rfl rfl rfl
theorem d_5_6_19 : decode prog_5_method_6_code 19 = .ok (.invokevirtual 122, 3) := D_182 W_prog_5_method_6_code_0 19 rfl rfl rfl
theorem d_5_6_22 : decode prog_5_method_6_code 22 = .ok (.iload_n 2, 1) := D_28 W_prog_5_method_6_code_0 22 rfl rfl
theorem d_5_6_23 : decode prog_5_method_6_code 23 = .ok (.iconst 1, 1) := D_4 W_prog_5_method_6_code_0 23 rfl rfl
theorem d_5_6_24 : decode prog_5_method_6_code 24 = .ok (.if_icmp .ne 9, 3) := D_160 W_prog_5_method_6_code_0 24 rfl rfl rfl
theorem W_prog_5_method_6_code_32 : chW prog_5_method_6_code 32 [172, 28, 5, 160, 0, 9, 42, 43, 182, 0, 128, 172, 42, 16, 20, 17, 1, 44, 3, 182, 0, 131, 154, 0, 5, 3, 172, 43, 42, 180, 0, 135, 181, 0, 138, 4] := chW_of (by decide +kernel)
theorem d_5_6_33 : decode prog_5_method_6_code 33 = .ok (.iload_n 2, 1) := D_28 W_prog_5_method_6_code_32 1 rfl rfl
theorem d_5_6_34 : decode prog_5_method_6_code 34 = .ok (.iconst 2, 1) := D_5 W_prog_5_method_6_code_32 2 rfl rfl
theorem d_5_6_35 : decode prog_5_method_6_code 35 = .ok (.if_icmp .ne 9, 3) := D_160 W_prog_5_method_6_code_32 3 rfl rfl rfl
theorem d_5_6_44 : decode prog_5_method_6_code 44 = .ok (.aload_n 0, 1) := D_42 W_prog_5_method_6_code_32 12 rfl rfl
theorem d_5_6_45 : decode prog_5_method_6_code 45 = .ok (.bipush 20, 2) := D_16 W_prog_5_method_6_code_32 13 rfl rfl rfl
theorem d_5_6_47 : decode prog_5_method_6_code 47 = .ok (.sipush 300, 3) := D_17 W_prog_5_method_6_code_32 15 rfl rfl rfl
theorem d_5_6_50 : decode prog_5_method_6_code 50 = .ok (.iconst 0, 1) := D_3 W_prog_5_method_6_code_32 18 rfl rfl
theorem d_5_6_51 : decode prog_5_method_6_code 51 = .ok (.invokevirtual 131, 3) := D_182 W_prog_5_method_6_code_32 19 rfl rfl rfl
theorem W_prog_13_method_13_code_0 : chW prog_13_method_13_code 0 [42, 180, 0, 24, 180, 0, 95, 27, 46, 61, 42, 180, 0, 45, 5, 164, 0, 7, 2, 167, 0, 16, 42, 42, 180, 0, 24, 180, 0, 117, 27, 46, 182, 0, 148, 62] := chW_of (by decide +kernel)
theorem d_13_13_0 : decode prog_13_method_13_code 0 = .ok (.aload_n 0, 1) := D_42 W_prog_13_method_13_code_0 0 rfl rfl
theorem d_13_13_1 : decode prog_13_method_13_code 1 = .ok (.getfield 24, 3) := D_180 W_prog_13_method_13_code_0 1 rfl rfl rfl
theorem d_13_13_4 : decode prog_13_method_13_code 4 = .ok (.getfield 95, 3) := D_180 W_prog_13_method_13_code_0 4 rfl rfl rfl
theorem d_13_13_7 : decode prog_13_method_13_code 7 = .ok (.iload_n 1, 1) := D_27 W_prog_13_method_13_code_0 7 rfl rfl
theorem d_13_13_8 : decode prog_13_method_13_code 8 = .ok (.iaload, 1) := D_46 W_prog_13_method_13_code_0 8 rfl rfl
theorem d_13_13_9 : decode prog_13_method_13_code 9 = .ok (.istore_n 2, 1) := D_61 W_prog_13_method_13_code_0 9 rfl rfl
theorem d_13_13_10 : decode prog_13_method_13_code 10 = .ok (.aload_n 0, 1) := D_42 W_prog_13_method_13_code_0 10 rfl rfl
theorem d_13_13_11 : decode prog_13_method_13_code 11 = .ok (.getfield 45, 3) := D_180 W_prog_13_method_13_code_0 11 rfl rfl rfl
theorem d_13_13_14 : decode prog_13_method_13_code 14 = .ok (.iconst 2, 1) := D_5 W_prog_13_method_13_code_0 14 rfl rfl
theorem d_13_13_15 : decode prog_13_method_13_code 15 = .ok (.if_icmp .le 7, 3) := D_164 W_prog_13_method_13_code_0 15 rfl rfl rfl
theorem d_13_13_22 : decode prog_13_method_13_code 22 = .ok (.aload_n 0, 1) := D_42 W_prog_13_method_13_code_0 22 rfl rfl
theorem d_13_13_23 : decode prog_13_method_13_code 23 = .ok (.aload_n 0, 1) := D_42 W_prog_13_method_13_code_0 23 rfl rfl
theorem d_13_13_24 : decode prog_13_method_13_code 24 = .ok (.getfield 24, 3) := D_180 W_prog_13_method_13_code_0 24 rfl rfl rfl
theorem d_13_13_27 : decode prog_13_method_13_code 27 = .ok (.getfield 117, 3) := D_180 W_prog_13_method_13_code_0 27 rfl rfl rfl
theorem d_13_13_30 : decode prog_13_method_13_code 30 = .ok (.iload_n 1, 1) := D_27 W_prog_13_method_13_code_0 30 rfl rfl
theorem d_13_13_31 : decode prog_13_method_13_code 31 = .ok (.iaload, 1) := D_46 W_prog_13_method_13_code_0 31 rfl rfl
theorem W_prog_13_method_13_code_32 : chW prog_13_method_13_code 32 [182, 0, 148, 62, 29, 2, 159, 0, 11, 42, 180, 0, 54, 4, 162, 0, 11, 42, 16, 12, 28, 182, 0, 108, 177, 20, 0, 152, 29, 133, 105, 42, 180, 0, 54, 133] := chW_of (by decide +kernel)
theorem d_13_13_32 : decode prog_13_method_13_code 32 = .ok (.invokevirtual 148, 3) := D_182 W_prog_13_method_13_code_32 0 rfl rfl rfl
theorem W_prog_6_method_7_code_0 : chW prog_6_method_7_code 0 [27, 155, 0, 26, 27, 4, 96, 42, 180, 0, 31, 162, 0, 16, 42, 180, 0, 11, 27, 50, 4, 182, 0, 45, 154, 0, 5, 3, 172, 42, 180, 0, 11, 27, 50, 42] := chW_of (by decide +kernel)
theorem d_6_7_0 : decode prog_6_method_7_code 0 = .ok (.iload_n 1, 1) := D_27 W_prog_6_method_7_code_0 0 rfl rfl
theorem d_6_7_1 : decode prog_6_method_7_code 1 = .ok (.ifCond .lt 26, 3) := D_155 W_prog_6_method_7_code_0 1 rfl rfl rfl
theorem d_6_7_4 : decode prog_6_method_7_code 4 = .ok (.iload_n 1, 1) := D_27 W_prog_6_method_7_code_0 4 rfl rfl
theorem d_6_7_5 : decode prog_6_method_7_code 5 = .ok (.iconst 1, 1) := D_4 W_prog_6_method_7_code_0 5 rfl rfl
theorem d_6_7_6 : decode prog_6_method_7_code 6 = .ok (.iadd, 1) := D_96 W_prog_6_method_7_code_0 6 rfl rfl
theorem d_6_7_7 : decode prog_6_method_7_code 7 = .ok (.aload_n 0, 1) := D_42 W_prog_6_method_7_code_0 7 rfl rfl
theorem d_6_7_8 : decode prog_6_method_7_code 8 = .ok (.getfield 31, 3) := D_180 W_prog_6_method_7_code_0 8 rfl rfl rfl
theorem d_6_7_11 : decode prog_6_method_7_code 11 = .ok (.if_icmp .ge 16, 3) := D_162 W_prog_6_method_7_code_0 11 rfl rfl rfl
theorem d_6_7_14 : decode prog_6_method_7_code 14 = .ok (.aload_n 0, 1) := D_42 W_prog_6_method_7_code_0 14 rfl rfl
theorem d_6_7_15 : decode prog_6_method_7_code 15 = .ok (.getfield 11, 3) := D_180 W_prog_6_method_7_code_0 15 rfl rfl rfl
theorem d_6_7_18 : decode prog_6_method_7_code 18 = .ok (.iload_n 1, 1) := D_27 W_prog_6_method_7_code_0 18 rfl rfl
theorem d_6_7_19 : decode prog_6_method_7_code 19 = .ok (.aaload, 1) := D_50 W_prog_6_method_7_code_0 19 rfl rfl
theorem d_6_7_20 : decode prog_6_method_7_code 20 = .ok (.iconst 1, 1) := D_4 W_prog_6_method_7_code_0 20 rfl rfl
theorem d_6_7_21 : decode prog_6_method_7_code 21 = .ok (.invokevirtual 45, 3) := D_182 W_prog_6_method_7_code_0 21 rfl rfl rfl
theorem d_6_7_24 : decode prog_6_method_7_code 24 = .ok (.ifCond .ne 5, 3) := D_154 W_prog_6_method_7_code_0 24 rfl rfl rfl
theorem d_6_7_29 : decode prog_6_method_7_code 29 = .ok (.aload_n 0, 1) := D_42 W_prog_6_method_7_code_0 29 rfl rfl
theorem d_6_7_30 : decode prog_6_method_7_code 30 = .ok (.getfield 11, 3) := D_180 W_prog_6_method_7_code_0 30 rfl rfl rfl
theorem W_prog_6_method_7_code_32 : chW prog_6_method_7_code 32 [11, 27, 50, 42, 180, 0, 11, 27, 4, 96, 50, 182, 0, 95, 172] := chW_of (by decide +kernel)
theorem d_6_7_33 : decode prog_6_method_7_code 33 = .ok (.iload_n 1, 1) := D_27 W_prog_6_method_7_code_32 1 rfl rfl
theorem d_6_7_34 : decode prog_6_method_7_code 34 = .ok (.aaload, 1) := D_50 W_prog_6_method_7_code_32 2 rfl rfl
theorem d_6_7_35 : decode prog_6_method_7_code 35 = .ok (.aload_n 0, 1) := D_42 W_prog_6_method_7_code_32 3 rfl rfl
theorem d_6_7_36 : decode prog_6_method_7_code 36 = .ok (.getfield 11, 3) := D_180 W_prog_6_method_7_code_32 4 rfl rfl rfl
theorem d_6_7_39 : decode prog_6_method_7_code 39 = .ok (.iload_n 1, 1) := D_27 W_prog_6_method_7_code_32 7 rfl rfl
theorem d_6_7_40 : decode prog_6_method_7_code 40 = .ok (.iconst 1, 1) := D_4 W_prog_6_method_7_code_32 8 rfl rfl
theorem d_6_7_41 : decode prog_6_method_7_code 41 = .ok (.iadd, 1) := D_96 W_prog_6_method_7_code_32 9 rfl rfl
theorem d_6_7_42 : decode prog_6_method_7_code 42 = .ok (.aaload, 1) := D_50 W_prog_6_method_7_code_32 10 rfl rfl
theorem d_6_7_43 : decode prog_6_method_7_code 43 = .ok (.invokevirtual 95, 3) := D_182 W_prog_6_method_7_code_32 11 rfl rfl rfl
theorem W_prog_6_method_12_code_0 : chW prog_6_method_12_code 0 [42, 180, 0, 11, 27, 50, 58, 5, 33, 55, 6, 25, 5, 180, 0, 172, 7, 104, 54, 8, 3, 54, 9, 21, 9, 17, 3, 32, 162, 0, 81, 21, 8, 158, 0, 76] := chW_of (by decide +kernel)
theorem d_6_12_0 : decode prog_6_method_12_code 0 = .ok (.aload_n 0, 1) := D_42 W_prog_6_method_12_code_0 0 rfl rfl
theorem d_6_12_1 : decode prog_6_method_12_code 1 = .ok (.getfield 11, 3) := D_180 W_prog_6_method_12_code_0 1 rfl rfl rfl
theorem d_6_12_4 : decode prog_6_method_12_code 4 = .ok (.iload_n 1, 1) := D_27 W_prog_6_method_12_code_0 4 rfl rfl
theorem d_6_12_5 : decode prog_6_method_12_code 5 = .ok (.aaload, 1) := D_50 W_prog_6_method_12_code_0 5 rfl rfl
theorem d_6_12_6 : decode prog_6_method_12_code 6 = .ok (.astore 5, 2) := D_58 W_prog_6_method_12_code_0 6 rfl rfl
theorem d_6_12_8 : decode prog_6_method_12_code 8 = .ok (.lload_n 3, 1) := D_33 W_prog_6_method_12_code_0 8 rfl rfl
theorem d_6_12_9 : decode prog_6_method_12_code 9 = .ok (.lstore 6, 2) := D_55 W_prog_6_method_12_code_0 9 rfl rfl
theorem d_6_12_11 : decode prog_6_method_12_code 11 = .ok (.aload 5, 2) := D_25 W_prog_6_method_12_code_0 11 rfl rfl
theorem d_6_12_13 : decode prog_6_method_12_code 13 = .ok (.getfield 172, 3) := D_180 W_prog_6_method_12_code_0 13 rfl rfl rfl
theorem d_6_12_16 : decode prog_6_method_12_code 16 = .ok (.iconst 4, 1) := D_7 W_prog_6_method_12_code_0 16 rfl rfl
theorem d_6_12_17 : decode prog_6_method_12_code 17 = .ok (.imul, 1) := D_104 W_prog_6_method_12_code_0 17 rfl rfl
theorem d_6_12_18 : decode prog_6_method_12_code 18 = .ok (.istore 8, 2) := D_54 W_prog_6_method_12_code_0 18 rfl rfl
theorem d_6_12_20 : decode prog_6_method_12_code 20 = .ok (.iconst 0, 1) := D_3 W_prog_6_method_12_code_0 20 rfl rfl
theorem d_6_12_21 : decode prog_6_method_12_code 21 = .ok (.istore 9, 2) := D_54 W_prog_6_method_12_code_0 21 rfl rfl
theorem d_6_12_23 : decode prog_6_method_12_code 23 = .ok (.iload 9, 2) := D_21 W_prog_6_method_12_code_0 23 rfl rfl
theorem d_6_12_25 : decode prog_6_method_12_code 25 = .ok (.sipush 800, 3) := D_17 W_prog_6_method_12_code_0 25 rfl rfl rfl
theorem d_6_12_28 : decode prog_6_method_12_code 28 = .ok (.if_icmp .ge 81, 3) := D_162 W_prog_6_method_12_code_0 28 rfl rfl rfl
theorem d_6_12_31 : decode prog_6_method_12_code 31 = .ok (.iload 8, 2) := D_21 W_prog_6_method_12_code_0 31 rfl rfl
theorem W_prog_6_method_12_code_32 : chW prog_6_method_12_code 32 [8, 158, 0, 76, 42, 180, 0, 81, 154, 0, 69, 21, 8, 184, 0, 175, 54, 10, 42, 27, 28, 22, 6, 21, 10, 182, 0, 150, 21, 8, 21, 10, 184, 0, 169, 100] := chW_of (by decide +kernel)
theorem d_6_12_33 : decode prog_6_method_12_code 33 = .ok (.ifCond .le 76, 3) := D_158 W_prog_6_method_12_code_32 1 rfl rfl rfl
theorem d_6_12_36 : decode prog_6_method_12_code 36 = .ok (.aload_n 0, 1) := D_42 W_prog_6_method_12_code_32 4 rfl rfl
theorem d_6_12_37 : decode prog_6_method_12_code 37 = .ok (.getfield 81, 3) := D_180 W_prog_6_method_12_code_32 5 rfl rfl rfl
theorem d_6_12_40 : decode prog_6_method_12_code 40 = .ok (.ifCond .ne 69, 3) := D_154 W_prog_6_method_12_code_32 8 rfl rfl rfl
theorem d_6_12_43 : decode prog_6_method_12_code 43 = .ok (.iload 8, 2) := D_21 W_prog_6_method_12_code_32 11 rfl rfl
theorem d_6_12_45 : decode prog_6_method_12_code 45 = .ok (.invokestatic 175, 3) := D_184 W_prog_6_method_12_code_32 13 rfl rfl rfl
theorem W_prog_6_method_11_code_0 : chW prog_6_method_11_code 0 [20, 0, 157, 55, 7, 43, 182, 0, 55, 55, 9, 33, 22, 9, 109, 136, 54, 11, 33, 21, 11, 133, 22, 9, 105, 101, 22, 7, 109, 136, 54, 12, 22, 5, 22, 7] := chW_of (by decide +kernel)
theorem d_6_11_0 : decode prog_6_method_11_code 0 = .ok (.ldc2_w 157, 3) := D_20 W_prog_6_method_11_code_0 0 rfl rfl rfl
theorem d_6_11_3 : decode prog_6_method_11_code 3 = .ok (.lstore 7, 2) := D_55 W_prog_6_method_11_code_0 3 rfl rfl
theorem d_6_11_5 : decode prog_6_method_11_code 5 = .ok (.aload_n 1, 1) := D_43 W_prog_6_method_11_code_0 5 rfl rfl
theorem d_6_11_6 : decode prog_6_method_11_code 6 = .ok (.invokevirtual 55, 3) := D_182 W_prog_6_method_11_code_0 6 rfl rfl rfl
theorem d_6_11_9 : decode prog_6_method_11_code 9 = .ok (.lstore 9, 2) := D_55 W_prog_6_method_11_code_0 9 rfl rfl
theorem d_6_11_11 : decode prog_6_method_11_code 11 = .ok (.lload_n 3, 1) := D_33 W_prog_6_method_11_code_0 11 rfl rfl
theorem d_6_11_12 : decode prog_6_method_11_code 12 = .ok (.lload 9, 2) := D_22 W_prog_6_method_11_code_0 12 rfl rfl
theorem d_6_11_14 : decode prog_6_method_11_code 14 = .ok (.ldiv, 1) := D_109 W_prog_6_method_11_code_0 14 rfl rfl
theorem d_6_11_15 : decode prog_6_method_11_code 15 = .ok (.l2i, 1) := D_136 W_prog_6_method_11_code_0 15 rfl rfl
theorem d_6_11_16 : decode prog_6_method_11_code 16 = .ok (.istore 11, 2) := D_54 W_prog_6_method_11_code_0 16 rfl rfl
theorem d_6_11_18 : decode prog_6_method_11_code 18 = .ok (.lload_n 3, 1) := D_33 W_prog_6_method_11_code_0 18 rfl rfl
theorem d_6_11_19 : decode prog_6_method_11_code 19 = .ok (.iload 11, 2) := D_21 W_prog_6_method_11_code_0 19 rfl rfl
theorem d_6_11_21 : decode prog_6_method_11_code 21 = .ok (.i2l, 1) := D_133 W_prog_6_method_11_code_0 21 rfl rfl
theorem d_6_11_22 : decode prog_6_method_11_code 22 = .ok (.lload 9, 2) := D_22 W_prog_6_method_11_code_0 22 rfl rfl
theorem d_6_11_24 : decode prog_6_method_11_code 24 = .ok (.lmul, 1) := D_105 W_prog_6_method_11_code_0 24 rfl rfl
theorem d_6_11_25 : decode prog_6_method_11_code 25 = .ok (.lsub, 1) := D_101 W_prog_6_method_11_code_0 25 rfl rfl
theorem d_6_11_26 : decode prog_6_method_11_code 26 = .ok (.lload 7, 2) := D_22 W_prog_6_method_11_code_0 26 rfl rfl
theorem d_6_11_28 : decode prog_6_method_11_code 28 = .ok (.ldiv, 1) := D_109 W_prog_6_method_11_code_0 28 rfl rfl
theorem d_6_11_29 : decode prog_6_method_11_code 29 = .ok (.l2i, 1) := D_136 W_prog_6_method_11_code_0 29 rfl rfl
theorem d_6_11_30 : decode prog_6_method_11_code 30 = .ok (.istore 12, 2) := D_54 W_prog_6_method_11_code_0 30 rfl rfl
theorem W_prog_6_method_11_code_32 : chW prog_6_method_11_code 32 [22, 5, 22, 7, 109, 136, 54, 13, 3, 54, 14, 21, 14, 17, 3, 32, 162, 0, 73, 21, 13, 158, 0, 68, 42, 180, 0, 81, 154, 0, 61, 43, 180, 0, 159, 43] := chW_of (by decide +kernel)
theorem d_6_11_32 : decode prog_6_method_11_code 32 = .ok (.lload 5, 2) := D_22 W_prog_6_method_11_code_32 0 rfl rfl
theorem d_6_11_34 : decode prog_6_method_11_code 34 = .ok (.lload 7, 2) := D_22 W_prog_6_method_11_code_32 2 rfl rfl
theorem d_6_11_36 : decode prog_6_method_11_code 36 = .ok (.ldiv, 1) := D_109 W_prog_6_method_11_code_32 4 rfl rfl
theorem d_6_11_37 : decode prog_6_method_11_code 37 = .ok (.l2i, 1) := D_136 W_prog_6_method_11_code_32 5 rfl rfl
theorem d_6_11_38 : decode prog_6_method_11_code 38 = .ok (.istore 13, 2) := D_54 W_prog_6_method_11_code_32 6 rfl rfl
theorem d_6_11_40 : decode prog_6_method_11_code 40 = .ok (.iconst 0, 1) := D_3 W_prog_6_method_11_code_32 8 rfl rfl
theorem d_6_11_41 : decode prog_6_method_11_code 41 = .ok (.istore 14, 2) := D_54 W_prog_6_method_11_code_32 9 rfl rfl
theorem d_6_11_43 : decode prog_6_method_11_code 43 = .ok (.iload 14, 2) := D_21 W_prog_6_method_11_code_32 11 rfl rfl
theorem d_6_11_45 : decode prog_6_method_11_code 45 = .ok (.sipush 800, 3) := D_17 W_prog_6_method_11_code_32 13 rfl rfl rfl
theorem d_6_11_48 : decode prog_6_method_11_code 48 = .ok (.if_icmp .ge 73, 3) := D_162 W_prog_6_method_11_code_32 16 rfl rfl rfl
theorem d_6_11_51 : decode prog_6_method_11_code 51 = .ok (.iload 13, 2) := D_21 W_prog_6_method_11_code_32 19 rfl rfl
theorem d_6_11_53 : decode prog_6_method_11_code 53 = .ok (.ifCond .le 68, 3) := D_158 W_prog_6_method_11_code_32 21 rfl rfl rfl
theorem d_6_11_56 : decode prog_6_method_11_code 56 = .ok (.aload_n 0, 1) := D_42 W_prog_6_method_11_code_32 24 rfl rfl
theorem d_6_11_57 : decode prog_6_method_11_code 57 = .ok (.getfield 81, 3) := D_180 W_prog_6_method_11_code_32 25 rfl rfl rfl
theorem d_6_11_60 : decode prog_6_method_11_code 60 = .ok (.ifCond .ne 61, 3) := D_154 W_prog_6_method_11_code_32 28 rfl rfl rfl
theorem d_6_11_63 : decode prog_6_method_11_code 63 = .ok (.aload_n 1, 1) := D_43 W_prog_6_method_11_code_32 31 rfl rfl
theorem W_prog_6_method_11_code_64 : chW prog_6_method_11_code 64 [180, 0, 159, 43, 180, 0, 162, 21, 12, 21, 13, 184, 0, 165, 54, 15, 42, 28, 21, 11, 21, 12, 133, 22, 7, 105, 21, 15, 182, 0, 150, 21, 12, 21, 15, 184] := chW_of (by decide +kernel)
theorem d_6_11_64 : decode prog_6_method_11_code 64 = .ok (.getfield 159, 3) := D_180 W_prog_6_method_11_code_64 0 rfl rfl rfl
theorem d_6_11_67 : decode prog_6_method_11_code 67 = .ok (.aload_n 1, 1) := D_43 W_prog_6_method_11_code_64 3 rfl rfl
theorem d_6_11_68 : decode prog_6_method_11_code 68 = .ok (.getfield 162, 3) := D_180 W_prog_6_method_11_code_64 4 rfl rfl rfl
theorem d_6_11_71 : decode prog_6_method_11_code 71 = .ok (.iload 12, 2) := D_21 W_prog_6_method_11_code_64 7 rfl rfl
theorem d_6_11_73 : decode prog_6_method_11_code 73 = .ok (.iload 13, 2) := D_21 W_prog_6_method_11_code_64 9 rfl rfl
theorem d_6_11_75 : decode prog_6_method_11_code 75 = .ok (.invokestatic 165, 3) := D_184 W_prog_6_method_11_code_64 11 rfl rfl rfl
theorem W_prog_6_method_16_code_0 : chW prog_6_method_16_code 0 [3, 60, 27, 42, 180, 0, 35, 162, 0, 88, 42, 180, 0, 19, 3, 50, 27, 46, 61, 42, 27, 182, 0, 191, 153, 0, 16, 42, 180, 0, 19, 16, 6, 50, 27, 3] := chW_of (by decide +kernel)
theorem d_6_16_0 : decode prog_6_method_16_code 0 = .ok (.iconst 0, 1) := D_3 W_prog_6_method_16_code_0 0 rfl rfl
theorem d_6_16_1 : decode prog_6_method_16_code 1 = .ok (.istore_n 1, 1) := D_60 W_prog_6_method_16_code_0 1 rfl rfl
theorem d_6_16_2 : decode prog_6_method_16_code 2 = .ok (.iload_n 1, 1) := D_27 W_prog_6_method_16_code_0 2 rfl rfl
theorem d_6_16_3 : decode prog_6_method_16_code 3 = .ok (.aload_n 0, 1) := D_42 W_prog_6_method_16_code_0 3 rfl rfl
theorem d_6_16_4 : decode prog_6_method_16_code 4 = .ok (.getfield 35, 3) := D_180 W_prog_6_method_16_code_0 4 rfl rfl rfl
theorem d_6_16_7 : decode prog_6_method_16_code 7 = .ok (.if_icmp .ge 88, 3) := D_162 W_prog_6_method_16_code_0 7 rfl rfl rfl
theorem W_prog_6_method_16_code_64 : chW prog_6_method_16_code 64 [50, 180, 0, 188, 120, 4, 100, 79, 167, 0, 17, 42, 180, 0, 19, 16, 6, 50, 27, 42, 28, 182, 0, 68, 79, 132, 1, 1, 167, 255, 166, 177] := chW_of (by decide +kernel)
theorem d_6_16_95 : decode prog_6_method_16_code 95 = .ok (.return_, 1) := D_177 W_prog_6_method_16_code_64 31 rfl rfl
theorem d_6_16_10 : decode prog_6_method_16_code 10 = .ok (.aload_n 0, 1) := D_42 W_prog_6_method_16_code_0 10 rfl rfl
theorem d_6_16_11 : decode prog_6_method_16_code 11 = .ok (.getfield 19, 3) := D_180 W_prog_6_method_16_code_0 11 rfl rfl rfl
theorem d_6_16_14 : decode prog_6_method_16_code 14 = .ok (.iconst 0, 1) := D_3 W_prog_6_method_16_code_0 14 rfl rfl
theorem d_6_16_15 : decode prog_6_method_16_code 15 = .ok (.aaload, 1) := D_50 W_prog_6_method_16_code_0 15 rfl rfl
theorem d_6_16_16 : decode prog_6_method_16_code 16 = .ok (.iload_n 1, 1) := D_27 W_prog_6_method_16_code_0 16 rfl rfl
theorem d_6_16_17 : decode prog_6_method_16_code 17 = .ok (.iaload, 1) := D_46 W_prog_6_method_16_code_0 17 rfl rfl
theorem d_6_16_18 : decode prog_6_method_16_code 18 = .ok (.istore_n 2, 1) := D_61 W_prog_6_method_16_code_0 18 rfl rfl
theorem d_6_16_19 : decode prog_6_method_16_code 19 = .ok (.aload_n 0, 1) := D_42 W_prog_6_method_16_code_0 19 rfl rfl
theorem d_6_16_20 : decode prog_6_method_16_code 20 = .ok (.iload_n 1, 1) := D_27 W_prog_6_method_16_code_0 20 rfl rfl
theorem d_6_16_21 : decode prog_6_method_16_code 21 = .ok (.invokevirtual 191, 3) := D_182 W_prog_6_method_16_code_0 21 rfl rfl rfl
theorem W_prog_10_method_7_code_0 : chW prog_10_method_7_code 0 [9, 65, 3, 54, 4, 21, 4, 27, 162, 0, 21, 32, 20, 0, 94, 105, 42, 182, 0, 90, 133, 97, 65, 132, 4, 1, 167, 255, 235, 32, 173] := chW_of (by decide +kernel)
theorem d_10_7_0 : decode prog_10_method_7_code 0 = .ok (.lconst 0, 1) := D_9 W_prog_10_method_7_code_0 0 rfl rfl
theorem d_10_7_1 : decode prog_10_method_7_code 1 = .ok (.lstore_n 2, 1) := D_65 W_prog_10_method_7_code_0 1 rfl rfl
theorem d_10_7_2 : decode prog_10_method_7_code 2 = .ok (.iconst 0, 1) := D_3 W_prog_10_method_7_code_0 2 rfl rfl
theorem d_10_7_3 : decode prog_10_method_7_code 3 = .ok (.istore 4, 2) := D_54 W_prog_10_method_7_code_0 3 rfl rfl
theorem d_10_7_5 : decode prog_10_method_7_code 5 = .ok (.iload 4, 2) := D_21 W_prog_10_method_7_code_0 5 rfl rfl
theorem d_10_7_7 : decode prog_10_method_7_code 7 = .ok (.iload_n 1, 1) := D_27 W_prog_10_method_7_code_0 7 rfl rfl
theorem d_10_7_8 : decode prog_10_method_7_code 8 = .ok (.if_icmp .ge 21, 3) := D_162 W_prog_10_method_7_code_0 8 rfl rfl rfl
theorem d_10_7_29 : decode prog_10_method_7_code 29 = .ok (.lload_n 2, 1) := D_32 W_prog_10_method_7_code_0 29 rfl rfl
theorem d_10_7_30 : decode prog_10_method_7_code 30 = .ok (.lreturn, 1) := D_173 W_prog_10_method_7_code_0 30 rfl rfl
theorem d_10_7_11 : decode prog_10_method_7_code 11 = .ok (.lload_n 2, 1) := D_32 W_prog_10_method_7_code_0 11 rfl rfl
theorem d_10_7_12 : decode prog_10_method_7_code 12 = .ok (.ldc2_w 94, 3) := D_20 W_prog_10_method_7_code_0 12 rfl rfl rfl
theorem d_10_7_15 : decode prog_10_method_7_code 15 = .ok (.lmul, 1) := D_105 W_prog_10_method_7_code_0 15 rfl rfl
theorem d_10_7_16 : decode prog_10_method_7_code 16 = .ok (.aload_n 0, 1) := D_42 W_prog_10_method_7_code_0 16 rfl rfl
theorem d_10_7_17 : decode prog_10_method_7_code 17 = .ok (.invokevirtual 90, 3) := D_182 W_prog_10_method_7_code_0 17 rfl rfl rfl
theorem W_prog_10_method_8_code_0 : chW prog_10_method_8_code 0 [42, 180, 0, 27, 54, 6, 42, 27, 182, 0, 54, 55, 7, 22, 7, 32, 148, 155, 0, 11, 22, 7, 22, 4, 148, 158, 0, 12, 42, 6, 21, 6, 182, 0, 83, 3] := chW_of (by decide +kernel)
theorem d_10_8_0 : decode prog_10_method_8_code 0 = .ok (.aload_n 0, 1) := D_42 W_prog_10_method_8_code_0 0 rfl rfl
theorem d_10_8_1 : decode prog_10_method_8_code 1 = .ok (.getfield 27, 3) := D_180 W_prog_10_method_8_code_0 1 rfl rfl rfl
theorem d_10_8_4 : decode prog_10_method_8_code 4 = .ok (.istore 6, 2) := D_54 W_prog_10_method_8_code_0 4 rfl rfl
theorem d_10_8_6 : decode prog_10_method_8_code 6 = .ok (.aload_n 0, 1) := D_42 W_prog_10_method_8_code_0 6 rfl rfl
theorem d_10_8_7 : decode prog_10_method_8_code 7 = .ok (.iload_n 1, 1) := D_27 W_prog_10_method_8_code_0 7 rfl rfl
theorem d_10_8_8 : decode prog_10_method_8_code 8 = .ok (.invokevirtual 54, 3) := D_182 W_prog_10_method_8_code_0 8 rfl rfl rfl
theorem W_prog_10_method_9_code_0 : chW prog_10_method_9_code 0 [3, 60, 3, 61, 28, 7, 162, 0, 35, 42, 182, 0, 90, 62, 27, 17, 0, 128, 104, 29, 17, 0, 128, 112, 96, 60, 29, 17, 0, 128, 162, 0, 5, 27, 172, 132] := chW_of (by decide +kernel)
theorem d_10_9_0 : decode prog_10_method_9_code 0 = .ok (.iconst 0, 1) := D_3 W_prog_10_method_9_code_0 0 rfl rfl
theorem d_10_9_1 : decode prog_10_method_9_code 1 = .ok (.istore_n 1, 1) := D_60 W_prog_10_method_9_code_0 1 rfl rfl
theorem d_10_9_2 : decode prog_10_method_9_code 2 = .ok (.iconst 0, 1) := D_3 W_prog_10_method_9_code_0 2 rfl rfl
theorem d_10_9_3 : decode prog_10_method_9_code 3 = .ok (.istore_n 2, 1) := D_61 W_prog_10_method_9_code_0 3 rfl rfl
theorem d_10_9_4 : decode prog_10_method_9_code 4 = .ok (.iload_n 2, 1) := D_28 W_prog_10_method_9_code_0 4 rfl rfl
theorem d_10_9_5 : decode prog_10_method_9_code 5 = .ok (.iconst 4, 1) := D_7 W_prog_10_method_9_code_0 5 rfl rfl
theorem d_10_9_6 : decode prog_10_method_9_code 6 = .ok (.if_icmp .ge 35, 3) := D_162 W_prog_10_method_9_code_0 6 rfl rfl rfl
theorem W_prog_10_method_9_code_32 : chW prog_10_method_9_code 32 [5, 27, 172, 132, 2, 1, 167, 255, 222, 42, 4, 42, 180, 0, 27, 4, 100, 182, 0, 83, 3, 172] := chW_of (by decide +kernel)
theorem d_10_9_41 : decode prog_10_method_9_code 41 = .ok (.aload_n 0, 1) := D_42 W_prog_10_method_9_code_32 9 rfl rfl
theorem d_10_9_42 : decode prog_10_method_9_code 42 = .ok (.iconst 1, 1) := D_4 W_prog_10_method_9_code_32 10 rfl rfl
theorem d_10_9_43 : decode prog_10_method_9_code 43 = .ok (.aload_n 0, 1) := D_42 W_prog_10_method_9_code_32 11 rfl rfl
theorem d_10_9_44 : decode prog_10_method_9_code 44 = .ok (.getfield 27, 3) := D_180 W_prog_10_method_9_code_32 12 rfl rfl rfl
theorem d_10_9_47 : decode prog_10_method_9_code 47 = .ok (.iconst 1, 1) := D_4 W_prog_10_method_9_code_32 15 rfl rfl
theorem d_10_9_48 : decode prog_10_method_9_code 48 = .ok (.isub, 1) := D_100 W_prog_10_method_9_code_32 16 rfl rfl
theorem d_10_9_49 : decode prog_10_method_9_code 49 = .ok (.invokevirtual 83, 3) := D_182 W_prog_10_method_9_code_32 17 rfl rfl rfl
theorem d_10_9_52 : decode prog_10_method_9_code 52 = .ok (.iconst 0, 1) := D_3 W_prog_10_method_9_code_32 20 rfl rfl
theorem d_10_9_53 : decode prog_10_method_9_code 53 = .ok (.ireturn, 1) := D_172 W_prog_10_method_9_code_32 21 rfl rfl
theorem d_10_9_9 : decode prog_10_method_9_code 9 = .ok (.aload_n 0, 1) := D_42 W_prog_10_method_9_code_0 9 rfl rfl
theorem d_10_9_10 : decode prog_10_method_9_code 10 = .ok (.invokevirtual 90, 3) := D_182 W_prog_10_method_9_code_0 10 rfl rfl rfl
theorem W_prog_10_method_10_code_0 : chW prog_10_method_10_code 0 [42, 182, 0, 90, 60, 27, 17, 0, 128, 161, 0, 14, 42, 4, 42, 180, 0, 27, 4, 100, 182, 0, 83, 27, 172] := chW_of (by decide +kernel)
theorem d_10_10_0 : decode prog_10_method_10_code 0 = .ok (.aload_n 0, 1) := D_42 W_prog_10_method_10_code_0 0 rfl rfl
theorem d_10_10_1 : decode prog_10_method_10_code 1 = .ok (.invokevirtual 90, 3) := D_182 W_prog_10_method_10_code_0 1 rfl rfl rfl
theorem W_prog_10_method_15_code_0 : chW prog_10_method_15_code 0 [42, 180, 0, 120, 16, 16, 108, 54, 4, 21, 4, 16, 12, 159, 0, 10, 21, 4, 16, 13, 160, 0, 43, 42, 180, 0, 39, 154, 0, 35, 21, 4, 16, 12, 160, 0] := chW_of (by decide +kernel)
theorem d_10_15_0 : decode prog_10_method_15_code 0 = .ok (.aload_n 0, 1) := D_42 W_prog_10_method_15_code_0 0 rfl rfl
theorem d_10_15_1 : decode prog_10_method_15_code 1 = .ok (.getfield 120, 3) := D_180 W_prog_10_method_15_code_0 1 rfl rfl rfl
theorem d_10_15_4 : decode prog_10_method_15_code 4 = .ok (.bipush 16, 2) := D_16 W_prog_10_method_15_code_0 4 rfl rfl rfl
theorem d_10_15_6 : decode prog_10_method_15_code 6 = .ok (.idiv, 1) := D_108 W_prog_10_method_15_code_0 6 rfl rfl
theorem d_10_15_7 : decode prog_10_method_15_code 7 = .ok (.istore 4, 2) := D_54 W_prog_10_method_15_code_0 7 rfl rfl
theorem d_10_15_9 : decode prog_10_method_15_code 9 = .ok (.iload 4, 2) := D_21 W_prog_10_method_15_code_0 9 rfl rfl
theorem d_10_15_11 : decode prog_10_method_15_code 11 = .ok (.bipush 12, 2) := D_16 W_prog_10_method_15_code_0 11 rfl rfl rfl
theorem d_10_15_13 : decode prog_10_method_15_code 13 = .ok (.if_icmp .eq 10, 3) := D_159 W_prog_10_method_15_code_0 13 rfl rfl rfl
theorem d_10_15_16 : decode prog_10_method_15_code 16 = .ok (.iload 4, 2) := D_21 W_prog_10_method_15_code_0 16 rfl rfl
theorem d_10_15_18 : decode prog_10_method_15_code 18 = .ok (.bipush 13, 2) := D_16 W_prog_10_method_15_code_0 18 rfl rfl rfl
theorem d_10_15_20 : decode prog_10_method_15_code 20 = .ok (.if_icmp .ne 43, 3) := D_160 W_prog_10_method_15_code_0 20 rfl rfl rfl
theorem W_prog_10_method_15_code_32 : chW prog_10_method_15_code 32 [16, 12, 160, 0, 28, 42, 180, 0, 20, 42, 180, 0, 51, 46, 2, 160, 0, 15, 42, 180, 0, 20, 42, 180, 0, 51, 27, 7, 112, 79, 177, 42, 182, 0, 142, 54] := chW_of (by decide +kernel)
theorem d_10_15_63 : decode prog_10_method_15_code 63 = .ok (.aload_n 0, 1) := D_42 W_prog_10_method_15_code_32 31 rfl rfl
theorem W_prog_10_method_15_code_64 : chW prog_10_method_15_code 64 [182, 0, 142, 54, 5, 42, 180, 0, 39, 153, 0, 4, 177, 21, 4, 16, 9, 160, 0, 19, 21, 5, 158, 0, 14, 42, 27, 21, 5, 28, 182, 0, 149, 167, 0, 23] := chW_of (by decide +kernel)
theorem d_10_15_64 : decode prog_10_method_15_code 64 = .ok (.invokevirtual 142, 3) := D_182 W_prog_10_method_15_code_64 0 rfl rfl rfl
theorem W_prog_9_method_6_code_0 : chW prog_9_method_6_code 0 [42, 42, 42, 180, 0, 22, 180, 0, 81, 7, 50, 27, 47, 182, 0, 105, 181, 0, 109, 42, 42, 180, 0, 109, 10, 97, 181, 0, 98, 42, 27, 181, 0, 91, 3, 62] := chW_of (by decide +kernel)
theorem d_9_6_0 : decode prog_9_method_6_code 0 = .ok (.aload_n 0, 1) := D_42 W_prog_9_method_6_code_0 0 rfl rfl
theorem d_9_6_1 : decode prog_9_method_6_code 1 = .ok (.aload_n 0, 1) := D_42 W_prog_9_method_6_code_0 1 rfl rfl
theorem d_9_6_2 : decode prog_9_method_6_code 2 = .ok (.aload_n 0, 1) := D_42 W_prog_9_method_6_code_0 2 rfl rfl
theorem d_9_6_3 : decode prog_9_method_6_code 3 = .ok (.getfield 22, 3) := D_180 W_prog_9_method_6_code_0 3 rfl rfl rfl
theorem d_9_6_6 : decode prog_9_method_6_code 6 = .ok (.getfield 81, 3) := D_180 W_prog_9_method_6_code_0 6 rfl rfl rfl
theorem d_9_6_9 : decode prog_9_method_6_code 9 = .ok (.iconst 4, 1) := D_7 W_prog_9_method_6_code_0 9 rfl rfl
theorem d_9_6_10 : decode prog_9_method_6_code 10 = .ok (.aaload, 1) := D_50 W_prog_9_method_6_code_0 10 rfl rfl
theorem d_9_6_11 : decode prog_9_method_6_code 11 = .ok (.iload_n 1, 1) := D_27 W_prog_9_method_6_code_0 11 rfl rfl
theorem d_9_6_12 : decode prog_9_method_6_code 12 = .ok (.laload, 1) := D_47 W_prog_9_method_6_code_0 12 rfl rfl
theorem d_9_6_13 : decode prog_9_method_6_code 13 = .ok (.invokevirtual 105, 3) := D_182 W_prog_9_method_6_code_0 13 rfl rfl rfl
theorem W_prog_9_method_7_code_0 : chW prog_9_method_7_code 0 [42, 180, 0, 12, 3, 181, 0, 115, 3, 60, 3, 61, 28, 42, 180, 0, 18, 190, 162, 0, 32, 27, 16, 6, 162, 0, 26, 42, 180, 0, 18, 28, 51, 153, 0, 11] := chW_of (by decide +kernel)
theorem d_9_7_0 : decode prog_9_method_7_code 0 = .ok (.aload_n 0, 1) := D_42 W_prog_9_method_7_code_0 0 rfl rfl
theorem d_9_7_1 : decode prog_9_method_7_code 1 = .ok (.getfield 12, 3) := D_180 W_prog_9_method_7_code_0 1 rfl rfl rfl
theorem d_9_7_4 : decode prog_9_method_7_code 4 = .ok (.iconst 0, 1) := D_3 W_prog_9_method_7_code_0 4 rfl rfl
theorem d_9_7_5 : decode prog_9_method_7_code 5 = .ok (.putfield 115, 3) := D_181 W_prog_9_method_7_code_0 5 rfl rfl rfl
theorem d_9_7_8 : decode prog_9_method_7_code 8 = .ok (.iconst 0, 1) := D_3 W_prog_9_method_7_code_0 8 rfl rfl
theorem d_9_7_9 : decode prog_9_method_7_code 9 = .ok (.istore_n 1, 1) := D_60 W_prog_9_method_7_code_0 9 rfl rfl
theorem d_9_7_10 : decode prog_9_method_7_code 10 = .ok (.iconst 0, 1) := D_3 W_prog_9_method_7_code_0 10 rfl rfl
theorem d_9_7_11 : decode prog_9_method_7_code 11 = .ok (.istore_n 2, 1) := D_61 W_prog_9_method_7_code_0 11 rfl rfl
theorem d_9_7_12 : decode prog_9_method_7_code 12 = .ok (.iload_n 2, 1) := D_28 W_prog_9_method_7_code_0 12 rfl rfl
theorem d_9_7_13 : decode prog_9_method_7_code 13 = .ok (.aload_n 0, 1) := D_42 W_prog_9_method_7_code_0 13 rfl rfl
theorem d_9_7_14 : decode prog_9_method_7_code 14 = .ok (.getfield 18, 3) := D_180 W_prog_9_method_7_code_0 14 rfl rfl rfl
theorem d_9_7_17 : decode prog_9_method_7_code 17 = .ok (.arraylength, 1) := D_190 W_prog_9_method_7_code_0 17 rfl rfl
theorem d_9_7_18 : decode prog_9_method_7_code 18 = .ok (.if_icmp .ge 32, 3) := D_162 W_prog_9_method_7_code_0 18 rfl rfl rfl
theorem d_9_7_21 : decode prog_9_method_7_code 21 = .ok (.iload_n 1, 1) := D_27 W_prog_9_method_7_code_0 21 rfl rfl
theorem d_9_7_22 : decode prog_9_method_7_code 22 = .ok (.bipush 6, 2) := D_16 W_prog_9_method_7_code_0 22 rfl rfl rfl
theorem d_9_7_24 : decode prog_9_method_7_code 24 = .ok (.if_icmp .ge 26, 3) := D_162 W_prog_9_method_7_code_0 24 rfl rfl rfl
theorem d_9_7_27 : decode prog_9_method_7_code 27 = .ok (.aload_n 0, 1) := D_42 W_prog_9_method_7_code_0 27 rfl rfl
theorem d_9_7_28 : decode prog_9_method_7_code 28 = .ok (.getfield 18, 3) := D_180 W_prog_9_method_7_code_0 28 rfl rfl rfl
theorem d_9_7_31 : decode prog_9_method_7_code 31 = .ok (.iload_n 2, 1) := D_28 W_prog_9_method_7_code_0 31 rfl rfl
theorem W_prog_9_method_7_code_32 : chW prog_9_method_7_code 32 [51, 153, 0, 11, 132, 1, 1, 42, 28, 182, 0, 116, 132, 2, 1, 167, 255, 221, 177] := chW_of (by decide +kernel)
theorem d_9_7_32 : decode prog_9_method_7_code 32 = .ok (.baload, 1) := D_51 W_prog_9_method_7_code_32 0 rfl rfl
theorem d_9_7_33 : decode prog_9_method_7_code 33 = .ok (.ifCond .eq 11, 3) := D_153 W_prog_9_method_7_code_32 1 rfl rfl rfl
theorem d_9_7_36 : decode prog_9_method_7_code 36 = .ok (.iinc 1 1, 3) := D_132 W_prog_9_method_7_code_32 4 rfl rfl rfl
theorem d_9_7_39 : decode prog_9_method_7_code 39 = .ok (.aload_n 0, 1) := D_42 W_prog_9_method_7_code_32 7 rfl rfl
theorem d_9_7_40 : decode prog_9_method_7_code 40 = .ok (.iload_n 2, 1) := D_28 W_prog_9_method_7_code_32 8 rfl rfl
theorem d_9_7_41 : decode prog_9_method_7_code 41 = .ok (.invokevirtual 116, 3) := D_182 W_prog_9_method_7_code_32 9 rfl rfl rfl
theorem W_prog_7_method_29_code_0 : chW prog_7_method_29_code 0 [26, 27, 162, 0, 10, 26, 184, 1, 48, 167, 0, 19, 27, 184, 1, 48, 17, 1, 144, 26, 27, 100, 100, 104, 17, 1, 144, 108, 172] := chW_of (by decide +kernel)
theorem d_7_29_0 : decode prog_7_method_29_code 0 = .ok (.iload_n 0, 1) := D_26 W_prog_7_method_29_code_0 0 rfl rfl
theorem d_7_29_1 : decode prog_7_method_29_code 1 = .ok (.iload_n 1, 1) := D_27 W_prog_7_method_29_code_0 1 rfl rfl
theorem d_7_29_2 : decode prog_7_method_29_code 2 = .ok (.if_icmp .ge 10, 3) := D_162 W_prog_7_method_29_code_0 2 rfl rfl rfl
theorem d_7_29_12 : decode prog_7_method_29_code 12 = .ok (.iload_n 1, 1) := D_27 W_prog_7_method_29_code_0 12 rfl rfl
theorem d_7_29_13 : decode prog_7_method_29_code 13 = .ok (.invokestatic 304, 3) := D_184 W_prog_7_method_29_code_0 13 rfl rfl rfl
theorem W_prog_11_method_16_code_0 : chW prog_11_method_16_code 0 [27, 28, 96, 16, 7, 112, 62, 42, 180, 0, 40, 29, 46, 154, 0, 6, 16, 99, 172, 178, 0, 180, 29, 46, 42, 29, 182, 0, 150, 96, 54, 4, 21, 4, 178, 0] := chW_of (by decide +kernel)
theorem d_11_16_0 : decode prog_11_method_16_code 0 = .ok (.iload_n 1, 1) := D_27 W_prog_11_method_16_code_0 0 rfl rfl
theorem d_11_16_1 : decode prog_11_method_16_code 1 = .ok (.iload_n 2, 1) := D_28 W_prog_11_method_16_code_0 1 rfl rfl
theorem d_11_16_2 : decode prog_11_method_16_code 2 = .ok (.iadd, 1) := D_96 W_prog_11_method_16_code_0 2 rfl rfl
theorem d_11_16_3 : decode prog_11_method_16_code 3 = .ok (.bipush 7, 2) := D_16 W_prog_11_method_16_code_0 3 rfl rfl rfl
theorem d_11_16_5 : decode prog_11_method_16_code 5 = .ok (.irem, 1) := D_112 W_prog_11_method_16_code_0 5 rfl rfl
theorem d_11_16_6 : decode prog_11_method_16_code 6 = .ok (.istore_n 3, 1) := D_62 W_prog_11_method_16_code_0 6 rfl rfl
