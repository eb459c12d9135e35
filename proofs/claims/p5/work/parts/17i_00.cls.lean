theorem k_2_186 : (Jvm.Cond.fieldLink "StaveHouse$Performance" (52 : Nat) "StaveHouse$Piece" "parts" "[LStaveHouse$Part;") ∈ wAll := wA_2 (j := 186) rfl rfl
theorem k_6_68 : (Jvm.Cond.fieldLink "StaveHouse$Performance" (159 : Nat) "StaveHouse$Performance" "made" "I") ∈ wAll := wA_6 (j := 68) rfl rfl
theorem k_7_235 : (Jvm.Cond.fieldLink "StaveHouse$SoundFile" (127 : Nat) "StaveHouse$SoundFile" "trackDone" "Z") ∈ wAll := wA_7 (j := 235) rfl rfl
theorem k_2_99 : (Jvm.Cond.fieldLink "StaveHouse$Scribe" (26 : Nat) "StaveHouse$Scribe" "page" "LStaveHouse$ByteRow;") ∈ wAll := wA_2 (j := 99) rfl rfl
theorem k_8_148 : (Jvm.Cond.methodLink "StaveHouse$Scribe" (70 : Nat) ({ cls := "StaveHouse$Scribe", name := "trackEnd", desc := "(I)I" } : Jvm.MethodName)) ∈ wAll := wA_8 (j := 148) rfl rfl
theorem k_8_150 : (Jvm.Cond.instanceMethod ({ cls := "StaveHouse$Scribe", name := "trackEnd", desc := "(I)I" } : Jvm.MethodName)) ∈ wAll := wA_8 (j := 150) rfl rfl
theorem ks_112 : (Jvm.Cond.selects "StaveHouse$Scribe" ({ cls := "StaveHouse$Scribe", name := "trackEnd", desc := "(I)I" } : Jvm.MethodName) ({ cls := "StaveHouse$Scribe", name := "trackEnd", desc := "(I)I" } : Jvm.MethodName)) ∈ wAll := wA_s (j := 112) rfl rfl
theorem k_8_151 : (Jvm.Cond.code ({ cls := "StaveHouse$Scribe", name := "trackEnd", desc := "(I)I" } : Jvm.MethodName) prog_9_method_3_code (4 : Nat) (Option.some Jvm.ClassFile.FieldType.int)) ∈ wAll := wA_8 (j := 151) rfl rfl
theorem k_8_180 : (Jvm.Cond.methodLink "StaveHouse$Scribe" (151 : Nat) ({ cls := "StaveHouse$ByteRow", name := "put", desc := "(I)V" } : Jvm.MethodName)) ∈ wAll := wA_8 (j := 180) rfl rfl
theorem k_6_75 : (Jvm.Cond.fieldLink "StaveHouse$Performance" (18 : Nat) "StaveHouse$Performance" "mix" "[I") ∈ wAll := wA_6 (j := 75) rfl rfl
theorem k_2_220 : (Jvm.Cond.fieldLink "StaveHouse$Performance" (256 : Nat) "StaveHouse$Piece" "tempo" "I") ∈ wAll := wA_2 (j := 220) rfl rfl
theorem k_9_6 : (Jvm.Cond.constantLong "StaveHouse$Performance" (286 : Nat) (5000 : Int64)) ∈ wAll := wA_9 (j := 6) rfl rfl
theorem k_2_199 : (Jvm.Cond.fieldLink "StaveHouse$Performance" (153 : Nat) "StaveHouse$Piece" "fifths" "I") ∈ wAll := wA_2 (j := 199) rfl rfl
theorem k_2_23 : (Jvm.Cond.fieldLink "StaveHouse" (193 : Nat) "StaveHouse$Event" "place" "J") ∈ wAll := wA_2 (j := 23) rfl rfl
theorem k_9_7 : (Jvm.Cond.methodLink "StaveHouse$Performance" (288 : Nat) ({ cls := "StaveHouse$Performance", name := "turn", desc := "(I)J" } : Jvm.MethodName)) ∈ wAll := wA_9 (j := 7) rfl rfl
theorem k_9_8 : (Jvm.Cond.static ({ cls := "StaveHouse$Performance", name := "turn", desc := "(I)J" } : Jvm.MethodName)) ∈ wAll := wA_9 (j := 8) rfl rfl
theorem k_9_9 : (Jvm.Cond.code ({ cls := "StaveHouse$Performance", name := "turn", desc := "(I)J" } : Jvm.MethodName) prog_7_method_26_code (4 : Nat) (Option.some Jvm.ClassFile.FieldType.long)) ∈ wAll := wA_9 (j := 9) rfl rfl
theorem k_4_124 : (Jvm.Cond.fieldLink "StaveHouse$Performance" (266 : Nat) "StaveHouse$Part" "number" "I") ∈ wAll := wA_4 (j := 124) rfl rfl
theorem k_9_12 : (Jvm.Cond.methodLink "StaveHouse$Performance" (292 : Nat) ({ cls := "StaveHouse$Performance", name := "wave", desc := "(II)I" } : Jvm.MethodName)) ∈ wAll := wA_9 (j := 12) rfl rfl
theorem k_9_13 : (Jvm.Cond.static ({ cls := "StaveHouse$Performance", name := "wave", desc := "(II)I" } : Jvm.MethodName)) ∈ wAll := wA_9 (j := 13) rfl rfl
theorem k_9_14 : (Jvm.Cond.code ({ cls := "StaveHouse$Performance", name := "wave", desc := "(II)I" } : Jvm.MethodName) prog_7_method_27_code (3 : Nat) (Option.some Jvm.ClassFile.FieldType.int)) ∈ wAll := wA_9 (j := 14) rfl rfl
theorem k_5_121 : (Jvm.Cond.methodLink "StaveHouse$Part" (200 : Nat) ({ cls := "StaveHouse$Part", name := "accidentalsOf", desc := "(I)I" } : Jvm.MethodName)) ∈ wAll := wA_5 (j := 121) rfl rfl
theorem k_5_123 : (Jvm.Cond.instanceMethod ({ cls := "StaveHouse$Part", name := "accidentalsOf", desc := "(I)I" } : Jvm.MethodName)) ∈ wAll := wA_5 (j := 123) rfl rfl
theorem ks_57 : (Jvm.Cond.selects "StaveHouse$Part" ({ cls := "StaveHouse$Part", name := "accidentalsOf", desc := "(I)I" } : Jvm.MethodName) ({ cls := "StaveHouse$Part", name := "accidentalsOf", desc := "(I)I" } : Jvm.MethodName)) ∈ wAll := wA_s (j := 57) rfl rfl
theorem k_5_124 : (Jvm.Cond.code ({ cls := "StaveHouse$Part", name := "accidentalsOf", desc := "(I)I" } : Jvm.MethodName) prog_6_method_18_code (6 : Nat) (Option.some Jvm.ClassFile.FieldType.int)) ∈ wAll := wA_5 (j := 124) rfl rfl
theorem k_6_21 : (Jvm.Cond.methodLink "StaveHouse$Event" (33 : Nat) ({ cls := "StaveHouse$Event", name := "tone", desc := "(I)I" } : Jvm.MethodName)) ∈ wAll := wA_6 (j := 21) rfl rfl
theorem k_6_31 : (Jvm.Cond.methodLink "StaveHouse$Study" (111 : Nat) ({ cls := "StaveHouse$Study", name := "isFaultOfTwo", desc := "(III)Z" } : Jvm.MethodName)) ∈ wAll := wA_6 (j := 31) rfl rfl
theorem k_6_33 : (Jvm.Cond.instanceMethod ({ cls := "StaveHouse$Study", name := "isFaultOfTwo", desc := "(III)Z" } : Jvm.MethodName)) ∈ wAll := wA_6 (j := 33) rfl rfl
theorem ks_71 : (Jvm.Cond.selects "StaveHouse$Study" ({ cls := "StaveHouse$Study", name := "isFaultOfTwo", desc := "(III)Z" } : Jvm.MethodName) ({ cls := "StaveHouse$Study", name := "isFaultOfTwo", desc := "(III)Z" } : Jvm.MethodName)) ∈ wAll := wA_s (j := 71) rfl rfl
theorem k_6_34 : (Jvm.Cond.code ({ cls := "StaveHouse$Study", name := "isFaultOfTwo", desc := "(III)Z" } : Jvm.MethodName) prog_11_method_9_code (10 : Nat) (Option.some Jvm.ClassFile.FieldType.boolean)) ∈ wAll := wA_6 (j := 34) rfl rfl
theorem k_6_40 : (Jvm.Cond.methodLink "StaveHouse$Study" (115 : Nat) ({ cls := "StaveHouse$Study", name := "addFault", desc := "(IIII)V" } : Jvm.MethodName)) ∈ wAll := wA_6 (j := 40) rfl rfl
theorem k_6_42 : (Jvm.Cond.instanceMethod ({ cls := "StaveHouse$Study", name := "addFault", desc := "(IIII)V" } : Jvm.MethodName)) ∈ wAll := wA_6 (j := 42) rfl rfl
theorem ks_72 : (Jvm.Cond.selects "StaveHouse$Study" ({ cls := "StaveHouse$Study", name := "addFault", desc := "(IIII)V" } : Jvm.MethodName) ({ cls := "StaveHouse$Study", name := "addFault", desc := "(IIII)V" } : Jvm.MethodName)) ∈ wAll := wA_s (j := 72) rfl rfl
theorem k_6_43 : (Jvm.Cond.code ({ cls := "StaveHouse$Study", name := "addFault", desc := "(IIII)V" } : Jvm.MethodName) prog_11_method_8_code (5 : Nat) (Option.none : Option Jvm.ClassFile.FieldType)) ∈ wAll := wA_6 (j := 43) rfl rfl
theorem k_6_44 : (Jvm.Cond.methodLink "StaveHouse$Study" (119 : Nat) ({ cls := "StaveHouse$Study", name := "isFaultOfOne", desc := "(II)Z" } : Jvm.MethodName)) ∈ wAll := wA_6 (j := 44) rfl rfl
theorem k_6_46 : (Jvm.Cond.instanceMethod ({ cls := "StaveHouse$Study", name := "isFaultOfOne", desc := "(II)Z" } : Jvm.MethodName)) ∈ wAll := wA_6 (j := 46) rfl rfl
theorem ks_73 : (Jvm.Cond.selects "StaveHouse$Study" ({ cls := "StaveHouse$Study", name := "isFaultOfOne", desc := "(II)Z" } : Jvm.MethodName) ({ cls := "StaveHouse$Study", name := "isFaultOfOne", desc := "(II)Z" } : Jvm.MethodName)) ∈ wAll := wA_s (j := 73) rfl rfl
theorem k_6_47 : (Jvm.Cond.code ({ cls := "StaveHouse$Study", name := "isFaultOfOne", desc := "(II)Z" } : Jvm.MethodName) prog_11_method_11_code (7 : Nat) (Option.some Jvm.ClassFile.FieldType.boolean)) ∈ wAll := wA_6 (j := 47) rfl rfl
theorem k_6_120 : (Jvm.Cond.methodLink "StaveHouse$Performance" (84 : Nat) ({ cls := "StaveHouse$Part", name := "tiedPitches", desc := "(I)I" } : Jvm.MethodName)) ∈ wAll := wA_6 (j := 120) rfl rfl
theorem k_2_26 : (Jvm.Cond.fieldLink "StaveHouse" (203 : Nat) "StaveHouse$Event" "length" "J") ∈ wAll := wA_2 (j := 26) rfl rfl
theorem k_2_40 : (Jvm.Cond.fieldLink "StaveHouse" (207 : Nat) "StaveHouse$Event" "marks" "I") ∈ wAll := wA_2 (j := 40) rfl rfl
theorem k_2_43 : (Jvm.Cond.fieldLink "StaveHouse" (210 : Nat) "StaveHouse$Event" "loud" "I") ∈ wAll := wA_2 (j := 43) rfl rfl
theorem k_2_46 : (Jvm.Cond.fieldLink "StaveHouse" (213 : Nat) "StaveHouse$Event" "token" "I") ∈ wAll := wA_2 (j := 46) rfl rfl
theorem k_7_30 : (Jvm.Cond.methodLink "StaveHouse$Layout" (91 : Nat) ({ cls := "StaveHouse$Layout", name := "nextPlace", desc := "(LStaveHouse$Piece;I)J" } : Jvm.MethodName)) ∈ wAll := wA_7 (j := 30) rfl rfl
theorem k_7_32 : (Jvm.Cond.instanceMethod ({ cls := "StaveHouse$Layout", name := "nextPlace", desc := "(LStaveHouse$Piece;I)J" } : Jvm.MethodName)) ∈ wAll := wA_7 (j := 32) rfl rfl
theorem ks_81 : (Jvm.Cond.selects "StaveHouse$Layout" ({ cls := "StaveHouse$Layout", name := "nextPlace", desc := "(LStaveHouse$Piece;I)J" } : Jvm.MethodName) ({ cls := "StaveHouse$Layout", name := "nextPlace", desc := "(LStaveHouse$Piece;I)J" } : Jvm.MethodName)) ∈ wAll := wA_s (j := 81) rfl rfl
theorem k_7_33 : (Jvm.Cond.code ({ cls := "StaveHouse$Layout", name := "nextPlace", desc := "(LStaveHouse$Piece;I)J" } : Jvm.MethodName) prog_4_method_5_code (7 : Nat) (Option.some Jvm.ClassFile.FieldType.long)) ∈ wAll := wA_7 (j := 33) rfl rfl
theorem k_7_96 : (Jvm.Cond.methodLink "StaveHouse$Performance" (175 : Nat) ({ cls := "StaveHouse$Performance", name := "sortStrokes", desc := "()V" } : Jvm.MethodName)) ∈ wAll := wA_7 (j := 96) rfl rfl
theorem k_7_98 : (Jvm.Cond.instanceMethod ({ cls := "StaveHouse$Performance", name := "sortStrokes", desc := "()V" } : Jvm.MethodName)) ∈ wAll := wA_7 (j := 98) rfl rfl
theorem ks_87 : (Jvm.Cond.selects "StaveHouse$Performance" ({ cls := "StaveHouse$Performance", name := "sortStrokes", desc := "()V" } : Jvm.MethodName) ({ cls := "StaveHouse$Performance", name := "sortStrokes", desc := "()V" } : Jvm.MethodName)) ∈ wAll := wA_s (j := 87) rfl rfl
theorem k_7_99 : (Jvm.Cond.code ({ cls := "StaveHouse$Performance", name := "sortStrokes", desc := "()V" } : Jvm.MethodName) prog_7_method_13_code (4 : Nat) (Option.none : Option Jvm.ClassFile.FieldType)) ∈ wAll := wA_7 (j := 99) rfl rfl
theorem k_7_91 : (Jvm.Cond.methodLink "StaveHouse$Performance" (171 : Nat) ({ cls := "StaveHouse$Performance", name := "strokeKey", desc := "(IJI)J" } : Jvm.MethodName)) ∈ wAll := wA_7 (j := 91) rfl rfl
theorem k_7_93 : (Jvm.Cond.instanceMethod ({ cls := "StaveHouse$Performance", name := "strokeKey", desc := "(IJI)J" } : Jvm.MethodName)) ∈ wAll := wA_7 (j := 93) rfl rfl
theorem ks_86 : (Jvm.Cond.selects "StaveHouse$Performance" ({ cls := "StaveHouse$Performance", name := "strokeKey", desc := "(IJI)J" } : Jvm.MethodName) ({ cls := "StaveHouse$Performance", name := "strokeKey", desc := "(IJI)J" } : Jvm.MethodName)) ∈ wAll := wA_s (j := 86) rfl rfl
theorem k_7_94 : (Jvm.Cond.code ({ cls := "StaveHouse$Performance", name := "strokeKey", desc := "(IJI)J" } : Jvm.MethodName) prog_7_method_12_code (7 : Nat) (Option.some Jvm.ClassFile.FieldType.long)) ∈ wAll := wA_7 (j := 94) rfl rfl
theorem k_8_84 : (Jvm.Cond.methodLink "StaveHouse$SoundFile" (136 : Nat) ({ cls := "StaveHouse$SoundFile", name := "takeDelta", desc := "()I" } : Jvm.MethodName)) ∈ wAll := wA_8 (j := 84) rfl rfl
theorem k_8_86 : (Jvm.Cond.instanceMethod ({ cls := "StaveHouse$SoundFile", name := "takeDelta", desc := "()I" } : Jvm.MethodName)) ∈ wAll := wA_8 (j := 86) rfl rfl
theorem ks_102 : (Jvm.Cond.selects "StaveHouse$SoundFile" ({ cls := "StaveHouse$SoundFile", name := "takeDelta", desc := "()I" } : Jvm.MethodName) ({ cls := "StaveHouse$SoundFile", name := "takeDelta", desc := "()I" } : Jvm.MethodName)) ∈ wAll := wA_s (j := 102) rfl rfl
theorem k_8_87 : (Jvm.Cond.code ({ cls := "StaveHouse$SoundFile", name := "takeDelta", desc := "()I" } : Jvm.MethodName) prog_10_method_9_code (4 : Nat) (Option.some Jvm.ClassFile.FieldType.int)) ∈ wAll := wA_8 (j := 87) rfl rfl
theorem k_8_70 : (Jvm.Cond.methodLink "StaveHouse$SoundFile" (70 : Nat) ({ cls := "StaveHouse$SoundFile", name := "skip", desc := "(J)V" } : Jvm.MethodName)) ∈ wAll := wA_8 (j := 70) rfl rfl
theorem k_8_72 : (Jvm.Cond.instanceMethod ({ cls := "StaveHouse$SoundFile", name := "skip", desc := "(J)V" } : Jvm.MethodName)) ∈ wAll := wA_8 (j := 72) rfl rfl
theorem ks_99 : (Jvm.Cond.selects "StaveHouse$SoundFile" ({ cls := "StaveHouse$SoundFile", name := "skip", desc := "(J)V" } : Jvm.MethodName) ({ cls := "StaveHouse$SoundFile", name := "skip", desc := "(J)V" } : Jvm.MethodName)) ∈ wAll := wA_s (j := 99) rfl rfl
theorem k_8_73 : (Jvm.Cond.code ({ cls := "StaveHouse$SoundFile", name := "skip", desc := "(J)V" } : Jvm.MethodName) prog_10_method_11_code (3 : Nat) (Option.none : Option Jvm.ClassFile.FieldType)) ∈ wAll := wA_8 (j := 73) rfl rfl
theorem k_8_96 : (Jvm.Cond.methodLink "StaveHouse$SoundFile" (155 : Nat) ({ cls := "StaveHouse$SoundFile", name := "tellTime", desc := "(II)V" } : Jvm.MethodName)) ∈ wAll := wA_8 (j := 96) rfl rfl
theorem k_8_98 : (Jvm.Cond.instanceMethod ({ cls := "StaveHouse$SoundFile", name := "tellTime", desc := "(II)V" } : Jvm.MethodName)) ∈ wAll := wA_8 (j := 98) rfl rfl
theorem ks_105 : (Jvm.Cond.selects "StaveHouse$SoundFile" ({ cls := "StaveHouse$SoundFile", name := "tellTime", desc := "(II)V" } : Jvm.MethodName) ({ cls := "StaveHouse$SoundFile", name := "tellTime", desc := "(II)V" } : Jvm.MethodName)) ∈ wAll := wA_s (j := 105) rfl rfl
theorem k_8_99 : (Jvm.Cond.code ({ cls := "StaveHouse$SoundFile", name := "tellTime", desc := "(II)V" } : Jvm.MethodName) prog_10_method_19_code (3 : Nat) (Option.none : Option Jvm.ClassFile.FieldType)) ∈ wAll := wA_8 (j := 99) rfl rfl
theorem k_8_100 : (Jvm.Cond.methodLink "StaveHouse$SoundFile" (158 : Nat) ({ cls := "StaveHouse$SoundFile", name := "tellKey", desc := "(II)V" } : Jvm.MethodName)) ∈ wAll := wA_8 (j := 100) rfl rfl
theorem k_8_102 : (Jvm.Cond.instanceMethod ({ cls := "StaveHouse$SoundFile", name := "tellKey", desc := "(II)V" } : Jvm.MethodName)) ∈ wAll := wA_8 (j := 102) rfl rfl
theorem ks_106 : (Jvm.Cond.selects "StaveHouse$SoundFile" ({ cls := "StaveHouse$SoundFile", name := "tellKey", desc := "(II)V" } : Jvm.MethodName) ({ cls := "StaveHouse$SoundFile", name := "tellKey", desc := "(II)V" } : Jvm.MethodName)) ∈ wAll := wA_s (j := 106) rfl rfl
theorem k_8_103 : (Jvm.Cond.code ({ cls := "StaveHouse$SoundFile", name := "tellKey", desc := "(II)V" } : Jvm.MethodName) prog_10_method_20_code (3 : Nat) (Option.none : Option Jvm.ClassFile.FieldType)) ∈ wAll := wA_8 (j := 103) rfl rfl
theorem k_8_105 : (Jvm.Cond.constant "StaveHouse$SoundFile" (161 : Nat) (65536 : Int32)) ∈ wAll := wA_8 (j := 105) rfl rfl
theorem k_8_106 : (Jvm.Cond.methodLink "StaveHouse$SoundFile" (162 : Nat) ({ cls := "StaveHouse$SoundFile", name := "tellTempo", desc := "(I)V" } : Jvm.MethodName)) ∈ wAll := wA_8 (j := 106) rfl rfl
theorem k_8_108 : (Jvm.Cond.instanceMethod ({ cls := "StaveHouse$SoundFile", name := "tellTempo", desc := "(I)V" } : Jvm.MethodName)) ∈ wAll := wA_8 (j := 108) rfl rfl
theorem ks_107 : (Jvm.Cond.selects "StaveHouse$SoundFile" ({ cls := "StaveHouse$SoundFile", name := "tellTempo", desc := "(I)V" } : Jvm.MethodName) ({ cls := "StaveHouse$SoundFile", name := "tellTempo", desc := "(I)V" } : Jvm.MethodName)) ∈ wAll := wA_s (j := 107) rfl rfl
theorem k_8_109 : (Jvm.Cond.code ({ cls := "StaveHouse$SoundFile", name := "tellTempo", desc := "(I)V" } : Jvm.MethodName) prog_10_method_21_code (2 : Nat) (Option.none : Option Jvm.ClassFile.FieldType)) ∈ wAll := wA_8 (j := 109) rfl rfl
theorem k_8_152 : (Jvm.Cond.methodLink "StaveHouse$Scribe" (94 : Nat) ({ cls := "StaveHouse$Scribe", name := "gatherEvent", desc := "(II)V" } : Jvm.MethodName)) ∈ wAll := wA_8 (j := 152) rfl rfl
theorem k_8_154 : (Jvm.Cond.instanceMethod ({ cls := "StaveHouse$Scribe", name := "gatherEvent", desc := "(II)V" } : Jvm.MethodName)) ∈ wAll := wA_8 (j := 154) rfl rfl
theorem ks_113 : (Jvm.Cond.selects "StaveHouse$Scribe" ({ cls := "StaveHouse$Scribe", name := "gatherEvent", desc := "(II)V" } : Jvm.MethodName) ({ cls := "StaveHouse$Scribe", name := "gatherEvent", desc := "(II)V" } : Jvm.MethodName)) ∈ wAll := wA_s (j := 113) rfl rfl
theorem k_8_155 : (Jvm.Cond.code ({ cls := "StaveHouse$Scribe", name := "gatherEvent", desc := "(II)V" } : Jvm.MethodName) prog_9_method_6_code (4 : Nat) (Option.none : Option Jvm.ClassFile.FieldType)) ∈ wAll := wA_8 (j := 155) rfl rfl
theorem k_8_217 : (Jvm.Cond.methodLink "StaveHouse$Scribe" (223 : Nat) ({ cls := "java/lang/String", name := "charAt", desc := "(I)C" } : Jvm.MethodName)) ∈ wAll := wA_8 (j := 217) rfl rfl
theorem k_8_173 : (Jvm.Cond.methodLink "StaveHouse$Scribe" (141 : Nat) ({ cls := "java/lang/Math", name := "abs", desc := "(I)I" } : Jvm.MethodName)) ∈ wAll := wA_8 (j := 173) rfl rfl
theorem k_9_16 : (Jvm.Cond.methodLink "StaveHouse$Performance" (295 : Nat) ({ cls := "StaveHouse$Performance", name := "level", desc := "(II)I" } : Jvm.MethodName)) ∈ wAll := wA_9 (j := 16) rfl rfl
theorem k_9_17 : (Jvm.Cond.static ({ cls := "StaveHouse$Performance", name := "level", desc := "(II)I" } : Jvm.MethodName)) ∈ wAll := wA_9 (j := 17) rfl rfl
theorem k_9_18 : (Jvm.Cond.code ({ cls := "StaveHouse$Performance", name := "level", desc := "(II)I" } : Jvm.MethodName) prog_7_method_29_code (2 : Nat) (Option.some Jvm.ClassFile.FieldType.int)) ∈ wAll := wA_9 (j := 18) rfl rfl
theorem W_prog_6_method_17_code_0 : chW prog_6_method_17_code 0 [2, 61, 3, 62, 29, 42, 180, 0, 35, 162, 0, 115, 42, 180, 0, 19, 4, 50, 29, 46, 28, 159, 0, 44, 42, 180, 0, 19, 4, 50, 29, 46, 61, 3, 54, 4] := chW_of (by decide +kernel)
theorem d_6_17_0 : decode prog_6_method_17_code 0 = .ok (.iconst (-1), 1) := D_2 W_prog_6_method_17_code_0 0 rfl rfl
theorem d_6_17_1 : decode prog_6_method_17_code 1 = .ok (.istore_n 2, 1) := D_61 W_prog_6_method_17_code_0 1 rfl rfl
theorem d_6_17_2 : decode prog_6_method_17_code 2 = .ok (.iconst 0, 1) := D_3 W_prog_6_method_17_code_0 2 rfl rfl
theorem d_6_17_3 : decode prog_6_method_17_code 3 = .ok (.istore_n 3, 1) := D_62 W_prog_6_method_17_code_0 3 rfl rfl
theorem d_6_17_4 : decode prog_6_method_17_code 4 = .ok (.iload_n 3, 1) := D_29 W_prog_6_method_17_code_0 4 rfl rfl
theorem d_6_17_5 : decode prog_6_method_17_code 5 = .ok (.aload_n 0, 1) := D_42 W_prog_6_method_17_code_0 5 rfl rfl
theorem d_6_17_6 : decode prog_6_method_17_code 6 = .ok (.getfield 35, 3) := D_180 W_prog_6_method_17_code_0 6 rfl rfl rfl
theorem d_6_17_9 : decode prog_6_method_17_code 9 = .ok (.if_icmp .ge 115, 3) := D_162 W_prog_6_method_17_code_0 9 rfl rfl rfl
theorem W_prog_6_method_17_code_96 : chW prog_6_method_17_code 96 [21, 4, 153, 0, 18, 42, 42, 180, 0, 19, 3, 50, 29, 46, 182, 0, 200, 167, 0, 4, 3, 79, 132, 3, 1, 167, 255, 139, 177] := chW_of (by decide +kernel)
theorem d_6_17_124 : decode prog_6_method_17_code 124 = .ok (.return_, 1) := D_177 W_prog_6_method_17_code_96 28 rfl rfl
theorem d_6_17_12 : decode prog_6_method_17_code 12 = .ok (.aload_n 0, 1) := D_42 W_prog_6_method_17_code_0 12 rfl rfl
theorem d_6_17_13 : decode prog_6_method_17_code 13 = .ok (.getfield 19, 3) := D_180 W_prog_6_method_17_code_0 13 rfl rfl rfl
theorem d_6_17_16 : decode prog_6_method_17_code 16 = .ok (.iconst 1, 1) := D_4 W_prog_6_method_17_code_0 16 rfl rfl
theorem d_6_17_17 : decode prog_6_method_17_code 17 = .ok (.aaload, 1) := D_50 W_prog_6_method_17_code_0 17 rfl rfl
theorem d_6_17_18 : decode prog_6_method_17_code 18 = .ok (.iload_n 3, 1) := D_29 W_prog_6_method_17_code_0 18 rfl rfl
theorem d_6_17_19 : decode prog_6_method_17_code 19 = .ok (.iaload, 1) := D_46 W_prog_6_method_17_code_0 19 rfl rfl
theorem d_6_17_20 : decode prog_6_method_17_code 20 = .ok (.iload_n 2, 1) := D_28 W_prog_6_method_17_code_0 20 rfl rfl
theorem d_6_17_21 : decode prog_6_method_17_code 21 = .ok (.if_icmp .eq 44, 3) := D_159 W_prog_6_method_17_code_0 21 rfl rfl rfl
theorem d_6_17_24 : decode prog_6_method_17_code 24 = .ok (.aload_n 0, 1) := D_42 W_prog_6_method_17_code_0 24 rfl rfl
theorem d_6_17_25 : decode prog_6_method_17_code 25 = .ok (.getfield 19, 3) := D_180 W_prog_6_method_17_code_0 25 rfl rfl rfl
theorem d_6_17_28 : decode prog_6_method_17_code 28 = .ok (.iconst 1, 1) := D_4 W_prog_6_method_17_code_0 28 rfl rfl
theorem d_6_17_29 : decode prog_6_method_17_code 29 = .ok (.aaload, 1) := D_50 W_prog_6_method_17_code_0 29 rfl rfl
theorem d_6_17_30 : decode prog_6_method_17_code 30 = .ok (.iload_n 3, 1) := D_29 W_prog_6_method_17_code_0 30 rfl rfl
theorem d_6_17_31 : decode prog_6_method_17_code 31 = .ok (.iaload, 1) := D_46 W_prog_6_method_17_code_0 31 rfl rfl
theorem W_prog_6_method_17_code_32 : chW prog_6_method_17_code 32 [61, 3, 54, 4, 21, 4, 16, 63, 162, 0, 25, 42, 180, 0, 26, 21, 4, 27, 21, 4, 16, 7, 112, 184, 0, 197, 79, 132, 4, 1, 167, 255, 230, 42, 29, 182] := chW_of (by decide +kernel)
theorem d_6_17_32 : decode prog_6_method_17_code 32 = .ok (.istore_n 2, 1) := D_61 W_prog_6_method_17_code_32 0 rfl rfl
theorem d_6_17_33 : decode prog_6_method_17_code 33 = .ok (.iconst 0, 1) := D_3 W_prog_6_method_17_code_32 1 rfl rfl
theorem d_6_17_34 : decode prog_6_method_17_code 34 = .ok (.istore 4, 2) := D_54 W_prog_6_method_17_code_32 2 rfl rfl
theorem d_6_17_36 : decode prog_6_method_17_code 36 = .ok (.iload 4, 2) := D_21 W_prog_6_method_17_code_32 4 rfl rfl
theorem d_6_17_38 : decode prog_6_method_17_code 38 = .ok (.bipush 63, 2) := D_16 W_prog_6_method_17_code_32 6 rfl rfl rfl
theorem d_6_17_40 : decode prog_6_method_17_code 40 = .ok (.if_icmp .ge 25, 3) := D_162 W_prog_6_method_17_code_32 8 rfl rfl rfl
theorem d_6_17_43 : decode prog_6_method_17_code 43 = .ok (.aload_n 0, 1) := D_42 W_prog_6_method_17_code_32 11 rfl rfl
theorem d_6_17_44 : decode prog_6_method_17_code 44 = .ok (.getfield 26, 3) := D_180 W_prog_6_method_17_code_32 12 rfl rfl rfl
theorem d_6_17_47 : decode prog_6_method_17_code 47 = .ok (.iload 4, 2) := D_21 W_prog_6_method_17_code_32 15 rfl rfl
theorem d_6_17_49 : decode prog_6_method_17_code 49 = .ok (.iload_n 1, 1) := D_27 W_prog_6_method_17_code_32 17 rfl rfl
theorem d_6_17_50 : decode prog_6_method_17_code 50 = .ok (.iload 4, 2) := D_21 W_prog_6_method_17_code_32 18 rfl rfl
theorem d_6_17_52 : decode prog_6_method_17_code 52 = .ok (.bipush 7, 2) := D_16 W_prog_6_method_17_code_32 20 rfl rfl rfl
theorem d_6_17_54 : decode prog_6_method_17_code 54 = .ok (.irem, 1) := D_112 W_prog_6_method_17_code_32 22 rfl rfl
theorem d_6_17_55 : decode prog_6_method_17_code 55 = .ok (.invokestatic 197, 3) := D_184 W_prog_6_method_17_code_32 23 rfl rfl rfl
theorem W_prog_3_method_8_code_0 : chW prog_3_method_8_code 0 [2, 60, 3, 61, 28, 42, 180, 0, 18, 162, 0, 29, 27, 2, 159, 0, 16, 42, 28, 182, 0, 33, 42, 27, 182, 0, 33, 161, 0, 5, 28, 60, 132, 2, 1, 167] := chW_of (by decide +kernel)
theorem d_3_8_0 : decode prog_3_method_8_code 0 = .ok (.iconst (-1), 1) := D_2 W_prog_3_method_8_code_0 0 rfl rfl
theorem d_3_8_1 : decode prog_3_method_8_code 1 = .ok (.istore_n 1, 1) := D_60 W_prog_3_method_8_code_0 1 rfl rfl
theorem d_3_8_2 : decode prog_3_method_8_code 2 = .ok (.iconst 0, 1) := D_3 W_prog_3_method_8_code_0 2 rfl rfl
theorem d_3_8_3 : decode prog_3_method_8_code 3 = .ok (.istore_n 2, 1) := D_61 W_prog_3_method_8_code_0 3 rfl rfl
theorem d_3_8_4 : decode prog_3_method_8_code 4 = .ok (.iload_n 2, 1) := D_28 W_prog_3_method_8_code_0 4 rfl rfl
theorem d_3_8_5 : decode prog_3_method_8_code 5 = .ok (.aload_n 0, 1) := D_42 W_prog_3_method_8_code_0 5 rfl rfl
theorem d_3_8_6 : decode prog_3_method_8_code 6 = .ok (.getfield 18, 3) := D_180 W_prog_3_method_8_code_0 6 rfl rfl rfl
theorem d_3_8_9 : decode prog_3_method_8_code 9 = .ok (.if_icmp .ge 29, 3) := D_162 W_prog_3_method_8_code_0 9 rfl rfl rfl
theorem W_prog_3_method_8_code_32 : chW prog_3_method_8_code 32 [132, 2, 1, 167, 255, 225, 27, 172] := chW_of (by decide +kernel)
theorem d_3_8_38 : decode prog_3_method_8_code 38 = .ok (.iload_n 1, 1) := D_27 W_prog_3_method_8_code_32 6 rfl rfl
theorem d_3_8_39 : decode prog_3_method_8_code 39 = .ok (.ireturn, 1) := D_172 W_prog_3_method_8_code_32 7 rfl rfl
theorem d_3_8_12 : decode prog_3_method_8_code 12 = .ok (.iload_n 1, 1) := D_27 W_prog_3_method_8_code_0 12 rfl rfl
theorem d_3_8_13 : decode prog_3_method_8_code 13 = .ok (.iconst (-1), 1) := D_2 W_prog_3_method_8_code_0 13 rfl rfl
theorem d_3_8_14 : decode prog_3_method_8_code 14 = .ok (.if_icmp .eq 16, 3) := D_159 W_prog_3_method_8_code_0 14 rfl rfl rfl
theorem d_3_8_17 : decode prog_3_method_8_code 17 = .ok (.aload_n 0, 1) := D_42 W_prog_3_method_8_code_0 17 rfl rfl
theorem d_3_8_18 : decode prog_3_method_8_code 18 = .ok (.iload_n 2, 1) := D_28 W_prog_3_method_8_code_0 18 rfl rfl
theorem d_3_8_19 : decode prog_3_method_8_code 19 = .ok (.invokevirtual 33, 3) := D_182 W_prog_3_method_8_code_0 19 rfl rfl rfl
theorem W_prog_11_method_7_code_0 : chW prog_11_method_7_code 0 [4, 62, 29, 7, 163, 0, 64, 3, 54, 4, 21, 4, 27, 162, 0, 49, 21, 4, 4, 96, 54, 5, 21, 5, 27, 162, 0, 31, 42, 29, 21, 4, 21, 5, 182, 0] := chW_of (by decide +kernel)
theorem d_11_7_0 : decode prog_11_method_7_code 0 = .ok (.iconst 1, 1) := D_4 W_prog_11_method_7_code_0 0 rfl rfl
theorem d_11_7_1 : decode prog_11_method_7_code 1 = .ok (.istore_n 3, 1) := D_62 W_prog_11_method_7_code_0 1 rfl rfl
theorem d_11_7_2 : decode prog_11_method_7_code 2 = .ok (.iload_n 3, 1) := D_29 W_prog_11_method_7_code_0 2 rfl rfl
theorem d_11_7_3 : decode prog_11_method_7_code 3 = .ok (.iconst 4, 1) := D_7 W_prog_11_method_7_code_0 3 rfl rfl
theorem d_11_7_4 : decode prog_11_method_7_code 4 = .ok (.if_icmp .gt 64, 3) := D_163 W_prog_11_method_7_code_0 4 rfl rfl rfl
theorem W_prog_11_method_7_code_64 : chW prog_11_method_7_code 64 [1, 167, 255, 193, 8, 62, 29, 16, 6, 163, 0, 43, 3, 54, 4, 21, 4, 27, 162, 0, 28, 42, 29, 21, 4, 182, 0, 119, 153, 0, 12, 42, 28, 29, 21, 4] := chW_of (by decide +kernel)
theorem d_11_7_68 : decode prog_11_method_7_code 68 = .ok (.iconst 5, 1) := D_8 W_prog_11_method_7_code_64 4 rfl rfl
theorem d_11_7_69 : decode prog_11_method_7_code 69 = .ok (.istore_n 3, 1) := D_62 W_prog_11_method_7_code_64 5 rfl rfl
theorem d_11_7_7 : decode prog_11_method_7_code 7 = .ok (.iconst 0, 1) := D_3 W_prog_11_method_7_code_0 7 rfl rfl
theorem d_11_7_8 : decode prog_11_method_7_code 8 = .ok (.istore 4, 2) := D_54 W_prog_11_method_7_code_0 8 rfl rfl
theorem d_11_7_10 : decode prog_11_method_7_code 10 = .ok (.iload 4, 2) := D_21 W_prog_11_method_7_code_0 10 rfl rfl
theorem d_11_7_12 : decode prog_11_method_7_code 12 = .ok (.iload_n 1, 1) := D_27 W_prog_11_method_7_code_0 12 rfl rfl
theorem d_11_7_13 : decode prog_11_method_7_code 13 = .ok (.if_icmp .ge 49, 3) := D_162 W_prog_11_method_7_code_0 13 rfl rfl rfl
theorem W_prog_11_method_7_code_32 : chW prog_11_method_7_code 32 [21, 5, 182, 0, 111, 153, 0, 13, 42, 28, 29, 21, 4, 21, 5, 182, 0, 115, 132, 5, 1, 167, 255, 225, 132, 4, 1, 167, 255, 207, 132, 3, 1, 167, 255, 193] := chW_of (by decide +kernel)
theorem d_11_7_62 : decode prog_11_method_7_code 62 = .ok (.iinc 3 1, 3) := D_132 W_prog_11_method_7_code_32 30 rfl rfl rfl
theorem d_11_7_65 : decode prog_11_method_7_code 65 = .ok (.goto (-63), 3) := D_167 W_prog_11_method_7_code_64 1 rfl rfl rfl
theorem d_11_7_16 : decode prog_11_method_7_code 16 = .ok (.iload 4, 2) := D_21 W_prog_11_method_7_code_0 16 rfl rfl
theorem d_11_7_18 : decode prog_11_method_7_code 18 = .ok (.iconst 1, 1) := D_4 W_prog_11_method_7_code_0 18 rfl rfl
theorem d_11_7_19 : decode prog_11_method_7_code 19 = .ok (.iadd, 1) := D_96 W_prog_11_method_7_code_0 19 rfl rfl
theorem d_11_7_20 : decode prog_11_method_7_code 20 = .ok (.istore 5, 2) := D_54 W_prog_11_method_7_code_0 20 rfl rfl
theorem d_11_7_22 : decode prog_11_method_7_code 22 = .ok (.iload 5, 2) := D_21 W_prog_11_method_7_code_0 22 rfl rfl
theorem d_11_7_24 : decode prog_11_method_7_code 24 = .ok (.iload_n 1, 1) := D_27 W_prog_11_method_7_code_0 24 rfl rfl
theorem d_11_7_25 : decode prog_11_method_7_code 25 = .ok (.if_icmp .ge 31, 3) := D_162 W_prog_11_method_7_code_0 25 rfl rfl rfl
theorem d_11_7_56 : decode prog_11_method_7_code 56 = .ok (.iinc 4 1, 3) := D_132 W_prog_11_method_7_code_32 24 rfl rfl rfl
theorem d_11_7_59 : decode prog_11_method_7_code 59 = .ok (.goto (-49), 3) := D_167 W_prog_11_method_7_code_32 27 rfl rfl rfl
theorem d_11_7_28 : decode prog_11_method_7_code 28 = .ok (.aload_n 0, 1) := D_42 W_prog_11_method_7_code_0 28 rfl rfl
theorem d_11_7_29 : decode prog_11_method_7_code 29 = .ok (.iload_n 3, 1) := D_29 W_prog_11_method_7_code_0 29 rfl rfl
theorem d_11_7_30 : decode prog_11_method_7_code 30 = .ok (.iload 4, 2) := D_21 W_prog_11_method_7_code_0 30 rfl rfl
theorem d_11_7_32 : decode prog_11_method_7_code 32 = .ok (.iload 5, 2) := D_21 W_prog_11_method_7_code_32 0 rfl rfl
theorem d_11_7_34 : decode prog_11_method_7_code 34 = .ok (.invokevirtual 111, 3) := D_182 W_prog_11_method_7_code_32 2 rfl rfl rfl
theorem W_prog_7_method_3_code_0 : chW prog_7_method_3_code 0 [42, 180, 0, 73, 27, 50, 77, 44, 16, 64, 182, 0, 77, 153, 0, 32, 44, 180, 0, 83, 4, 160, 0, 24, 42, 27, 182, 0, 84, 154, 0, 16, 42, 27, 3, 182] := chW_of (by decide +kernel)
theorem d_7_3_0 : decode prog_7_method_3_code 0 = .ok (.aload_n 0, 1) := D_42 W_prog_7_method_3_code_0 0 rfl rfl
theorem d_7_3_1 : decode prog_7_method_3_code 1 = .ok (.getfield 73, 3) := D_180 W_prog_7_method_3_code_0 1 rfl rfl rfl
theorem d_7_3_4 : decode prog_7_method_3_code 4 = .ok (.iload_n 1, 1) := D_27 W_prog_7_method_3_code_0 4 rfl rfl
theorem d_7_3_5 : decode prog_7_method_3_code 5 = .ok (.aaload, 1) := D_50 W_prog_7_method_3_code_0 5 rfl rfl
theorem d_7_3_6 : decode prog_7_method_3_code 6 = .ok (.astore_n 2, 1) := D_77 W_prog_7_method_3_code_0 6 rfl rfl
theorem d_7_3_7 : decode prog_7_method_3_code 7 = .ok (.aload_n 2, 1) := D_44 W_prog_7_method_3_code_0 7 rfl rfl
theorem d_7_3_8 : decode prog_7_method_3_code 8 = .ok (.bipush 64, 2) := D_16 W_prog_7_method_3_code_0 8 rfl rfl rfl
theorem d_7_3_10 : decode prog_7_method_3_code 10 = .ok (.invokevirtual 77, 3) := D_182 W_prog_7_method_3_code_0 10 rfl rfl rfl
theorem d_7_3_13 : decode prog_7_method_3_code 13 = .ok (.ifCond .eq 32, 3) := D_153 W_prog_7_method_3_code_0 13 rfl rfl rfl
theorem d_7_3_16 : decode prog_7_method_3_code 16 = .ok (.aload_n 2, 1) := D_44 W_prog_7_method_3_code_0 16 rfl rfl
theorem d_7_3_17 : decode prog_7_method_3_code 17 = .ok (.getfield 83, 3) := D_180 W_prog_7_method_3_code_0 17 rfl rfl rfl
theorem d_7_3_20 : decode prog_7_method_3_code 20 = .ok (.iconst 1, 1) := D_4 W_prog_7_method_3_code_0 20 rfl rfl
theorem d_7_3_21 : decode prog_7_method_3_code 21 = .ok (.if_icmp .ne 24, 3) := D_160 W_prog_7_method_3_code_0 21 rfl rfl rfl
theorem d_7_3_24 : decode prog_7_method_3_code 24 = .ok (.aload_n 0, 1) := D_42 W_prog_7_method_3_code_0 24 rfl rfl
theorem d_7_3_25 : decode prog_7_method_3_code 25 = .ok (.iload_n 1, 1) := D_27 W_prog_7_method_3_code_0 25 rfl rfl
theorem d_7_3_26 : decode prog_7_method_3_code 26 = .ok (.invokevirtual 84, 3) := D_182 W_prog_7_method_3_code_0 26 rfl rfl rfl
theorem W_prog_7_method_10_code_0 : chW prog_7_method_10_code 0 [43, 180, 0, 52, 28, 50, 180, 0, 73, 29, 50, 58, 4, 25, 4, 180, 0, 109, 25, 4, 180, 0, 121, 97, 184, 0, 113, 54, 5, 25, 4, 3, 182, 0, 124, 54] := chW_of (by decide +kernel)
theorem d_7_10_0 : decode prog_7_method_10_code 0 = .ok (.aload_n 1, 1) := D_43 W_prog_7_method_10_code_0 0 rfl rfl
theorem d_7_10_1 : decode prog_7_method_10_code 1 = .ok (.getfield 52, 3) := D_180 W_prog_7_method_10_code_0 1 rfl rfl rfl
theorem d_7_10_4 : decode prog_7_method_10_code 4 = .ok (.iload_n 2, 1) := D_28 W_prog_7_method_10_code_0 4 rfl rfl
theorem d_7_10_5 : decode prog_7_method_10_code 5 = .ok (.aaload, 1) := D_50 W_prog_7_method_10_code_0 5 rfl rfl
theorem d_7_10_6 : decode prog_7_method_10_code 6 = .ok (.getfield 73, 3) := D_180 W_prog_7_method_10_code_0 6 rfl rfl rfl
theorem d_7_10_9 : decode prog_7_method_10_code 9 = .ok (.iload_n 3, 1) := D_29 W_prog_7_method_10_code_0 9 rfl rfl
theorem d_7_10_10 : decode prog_7_method_10_code 10 = .ok (.aaload, 1) := D_50 W_prog_7_method_10_code_0 10 rfl rfl
theorem d_7_10_11 : decode prog_7_method_10_code 11 = .ok (.astore 4, 2) := D_58 W_prog_7_method_10_code_0 11 rfl rfl
theorem d_7_10_13 : decode prog_7_method_10_code 13 = .ok (.aload 4, 2) := D_25 W_prog_7_method_10_code_0 13 rfl rfl
theorem d_7_10_15 : decode prog_7_method_10_code 15 = .ok (.getfield 109, 3) := D_180 W_prog_7_method_10_code_0 15 rfl rfl rfl
theorem d_7_10_18 : decode prog_7_method_10_code 18 = .ok (.aload 4, 2) := D_25 W_prog_7_method_10_code_0 18 rfl rfl
theorem d_7_10_20 : decode prog_7_method_10_code 20 = .ok (.getfield 121, 3) := D_180 W_prog_7_method_10_code_0 20 rfl rfl rfl
theorem d_7_10_23 : decode prog_7_method_10_code 23 = .ok (.ladd, 1) := D_97 W_prog_7_method_10_code_0 23 rfl rfl
theorem d_7_10_24 : decode prog_7_method_10_code 24 = .ok (.invokestatic 113, 3) := D_184 W_prog_7_method_10_code_0 24 rfl rfl rfl
theorem W_prog_1_method_13_code_0 : chW prog_1_method_13_code 0 [42, 27, 28, 29, 182, 0, 187, 58, 5, 25, 5, 199, 0, 7, 20, 0, 191, 173, 21, 4, 170, 0, 0, 0, 0, 0, 0, 112, 0, 0, 0, 0, 0, 0, 0, 7] := chW_of (by decide +kernel)
theorem d_1_13_0 : decode prog_1_method_13_code 0 = .ok (.aload_n 0, 1) := D_42 W_prog_1_method_13_code_0 0 rfl rfl
theorem d_1_13_1 : decode prog_1_method_13_code 1 = .ok (.iload_n 1, 1) := D_27 W_prog_1_method_13_code_0 1 rfl rfl
theorem d_1_13_2 : decode prog_1_method_13_code 2 = .ok (.iload_n 2, 1) := D_28 W_prog_1_method_13_code_0 2 rfl rfl
theorem d_1_13_3 : decode prog_1_method_13_code 3 = .ok (.iload_n 3, 1) := D_29 W_prog_1_method_13_code_0 3 rfl rfl
theorem d_1_13_4 : decode prog_1_method_13_code 4 = .ok (.invokevirtual 187, 3) := D_182 W_prog_1_method_13_code_0 4 rfl rfl rfl
theorem W_prog_4_method_4_code_0 : chW prog_4_method_4_code 0 [42, 43, 28, 182, 0, 91, 66, 33, 9, 148, 155, 0, 13, 42, 180, 0, 76, 17, 12, 128, 161, 0, 5, 3, 172, 3, 54, 5, 3, 54, 6, 3, 54, 7, 21, 7] := chW_of (by decide +kernel)
theorem d_4_4_0 : decode prog_4_method_4_code 0 = .ok (.aload_n 0, 1) := D_42 W_prog_4_method_4_code_0 0 rfl rfl
theorem d_4_4_1 : decode prog_4_method_4_code 1 = .ok (.aload_n 1, 1) := D_43 W_prog_4_method_4_code_0 1 rfl rfl
theorem d_4_4_2 : decode prog_4_method_4_code 2 = .ok (.iload_n 2, 1) := D_28 W_prog_4_method_4_code_0 2 rfl rfl
theorem d_4_4_3 : decode prog_4_method_4_code 3 = .ok (.invokevirtual 91, 3) := D_182 W_prog_4_method_4_code_0 3 rfl rfl rfl
theorem W_prog_7_method_11_code_0 : chW prog_7_method_11_code 0 [42, 3, 181, 0, 159, 42, 3, 181, 0, 162, 42, 3, 181, 0, 165, 42, 3, 181, 0, 168, 3, 60, 27, 42, 180, 0, 36, 162, 0, 57, 42, 180, 0, 26, 5, 27] := chW_of (by decide +kernel)
theorem d_7_11_0 : decode prog_7_method_11_code 0 = .ok (.aload_n 0, 1) := D_42 W_prog_7_method_11_code_0 0 rfl rfl
theorem d_7_11_1 : decode prog_7_method_11_code 1 = .ok (.iconst 0, 1) := D_3 W_prog_7_method_11_code_0 1 rfl rfl
theorem d_7_11_2 : decode prog_7_method_11_code 2 = .ok (.putfield 159, 3) := D_181 W_prog_7_method_11_code_0 2 rfl rfl rfl
theorem d_7_11_5 : decode prog_7_method_11_code 5 = .ok (.aload_n 0, 1) := D_42 W_prog_7_method_11_code_0 5 rfl rfl
theorem d_7_11_6 : decode prog_7_method_11_code 6 = .ok (.iconst 0, 1) := D_3 W_prog_7_method_11_code_0 6 rfl rfl
theorem d_7_11_7 : decode prog_7_method_11_code 7 = .ok (.putfield 162, 3) := D_181 W_prog_7_method_11_code_0 7 rfl rfl rfl
theorem d_7_11_10 : decode prog_7_method_11_code 10 = .ok (.aload_n 0, 1) := D_42 W_prog_7_method_11_code_0 10 rfl rfl
theorem d_7_11_11 : decode prog_7_method_11_code 11 = .ok (.iconst 0, 1) := D_3 W_prog_7_method_11_code_0 11 rfl rfl
theorem d_7_11_12 : decode prog_7_method_11_code 12 = .ok (.putfield 165, 3) := D_181 W_prog_7_method_11_code_0 12 rfl rfl rfl
theorem d_7_11_15 : decode prog_7_method_11_code 15 = .ok (.aload_n 0, 1) := D_42 W_prog_7_method_11_code_0 15 rfl rfl
theorem d_7_11_16 : decode prog_7_method_11_code 16 = .ok (.iconst 0, 1) := D_3 W_prog_7_method_11_code_0 16 rfl rfl
theorem d_7_11_17 : decode prog_7_method_11_code 17 = .ok (.putfield 168, 3) := D_181 W_prog_7_method_11_code_0 17 rfl rfl rfl
theorem d_7_11_20 : decode prog_7_method_11_code 20 = .ok (.iconst 0, 1) := D_3 W_prog_7_method_11_code_0 20 rfl rfl
theorem d_7_11_21 : decode prog_7_method_11_code 21 = .ok (.istore_n 1, 1) := D_60 W_prog_7_method_11_code_0 21 rfl rfl
theorem d_7_11_22 : decode prog_7_method_11_code 22 = .ok (.iload_n 1, 1) := D_27 W_prog_7_method_11_code_0 22 rfl rfl
theorem d_7_11_23 : decode prog_7_method_11_code 23 = .ok (.aload_n 0, 1) := D_42 W_prog_7_method_11_code_0 23 rfl rfl
theorem d_7_11_24 : decode prog_7_method_11_code 24 = .ok (.getfield 36, 3) := D_180 W_prog_7_method_11_code_0 24 rfl rfl rfl
theorem d_7_11_27 : decode prog_7_method_11_code 27 = .ok (.if_icmp .ge 57, 3) := D_162 W_prog_7_method_11_code_0 27 rfl rfl rfl
theorem W_prog_7_method_11_code_64 : chW prog_7_method_11_code 64 [42, 180, 0, 23, 8, 50, 27, 46, 133, 3, 182, 0, 171, 80, 132, 1, 1, 167, 255, 197, 42, 182, 0, 175, 177] := chW_of (by decide +kernel)
theorem d_7_11_84 : decode prog_7_method_11_code 84 = .ok (.aload_n 0, 1) := D_42 W_prog_7_method_11_code_64 20 rfl rfl
theorem d_7_11_85 : decode prog_7_method_11_code 85 = .ok (.invokevirtual 175, 3) := D_182 W_prog_7_method_11_code_64 21 rfl rfl rfl
theorem W_prog_10_method_6_code_0 : chW prog_10_method_6_code 0 [42, 182, 0, 90, 62, 29, 27, 161, 0, 8, 29, 28, 164, 0, 14, 42, 4, 42, 180, 0, 27, 4, 100, 182, 0, 83, 177] := chW_of (by decide +kernel)
theorem d_10_6_0 : decode prog_10_method_6_code 0 = .ok (.aload_n 0, 1) := D_42 W_prog_10_method_6_code_0 0 rfl rfl
theorem d_10_6_1 : decode prog_10_method_6_code 1 = .ok (.invokevirtual 90, 3) := D_182 W_prog_10_method_6_code_0 1 rfl rfl rfl
theorem W_prog_10_method_18_code_0 : chW prog_10_method_18_code 0 [42, 182, 0, 142, 60, 42, 182, 0, 136, 61, 42, 180, 0, 27, 62, 42, 28, 133, 182, 0, 70, 42, 180, 0, 39, 154, 0, 10, 42, 180, 0, 23, 199, 0, 4, 177] := chW_of (by decide +kernel)
theorem d_10_18_0 : decode prog_10_method_18_code 0 = .ok (.aload_n 0, 1) := D_42 W_prog_10_method_18_code_0 0 rfl rfl
theorem d_10_18_1 : decode prog_10_method_18_code 1 = .ok (.invokevirtual 142, 3) := D_182 W_prog_10_method_18_code_0 1 rfl rfl rfl
theorem W_prog_9_method_5_code_0 : chW prog_9_method_5_code 0 [9, 64, 3, 62, 3, 54, 4, 21, 4, 42, 180, 0, 22, 180, 0, 63, 162, 0, 85, 29, 7, 162, 0, 80, 42, 21, 4, 182, 0, 70, 54, 5, 42, 21, 4, 181] := chW_of (by decide +kernel)
theorem d_9_5_0 : decode prog_9_method_5_code 0 = .ok (.lconst 0, 1) := D_9 W_prog_9_method_5_code_0 0 rfl rfl
theorem d_9_5_1 : decode prog_9_method_5_code 1 = .ok (.lstore_n 1, 1) := D_64 W_prog_9_method_5_code_0 1 rfl rfl
theorem d_9_5_2 : decode prog_9_method_5_code 2 = .ok (.iconst 0, 1) := D_3 W_prog_9_method_5_code_0 2 rfl rfl
theorem d_9_5_3 : decode prog_9_method_5_code 3 = .ok (.istore_n 3, 1) := D_62 W_prog_9_method_5_code_0 3 rfl rfl
theorem d_9_5_4 : decode prog_9_method_5_code 4 = .ok (.iconst 0, 1) := D_3 W_prog_9_method_5_code_0 4 rfl rfl
theorem d_9_5_5 : decode prog_9_method_5_code 5 = .ok (.istore 4, 2) := D_54 W_prog_9_method_5_code_0 5 rfl rfl
theorem d_9_5_7 : decode prog_9_method_5_code 7 = .ok (.iload 4, 2) := D_21 W_prog_9_method_5_code_0 7 rfl rfl
theorem d_9_5_9 : decode prog_9_method_5_code 9 = .ok (.aload_n 0, 1) := D_42 W_prog_9_method_5_code_0 9 rfl rfl
theorem d_9_5_10 : decode prog_9_method_5_code 10 = .ok (.getfield 22, 3) := D_180 W_prog_9_method_5_code_0 10 rfl rfl rfl
theorem d_9_5_13 : decode prog_9_method_5_code 13 = .ok (.getfield 63, 3) := D_180 W_prog_9_method_5_code_0 13 rfl rfl rfl
theorem d_9_5_16 : decode prog_9_method_5_code 16 = .ok (.if_icmp .ge 85, 3) := D_162 W_prog_9_method_5_code_0 16 rfl rfl rfl
theorem d_9_5_19 : decode prog_9_method_5_code 19 = .ok (.iload_n 3, 1) := D_29 W_prog_9_method_5_code_0 19 rfl rfl
theorem d_9_5_20 : decode prog_9_method_5_code 20 = .ok (.iconst 4, 1) := D_7 W_prog_9_method_5_code_0 20 rfl rfl
theorem d_9_5_21 : decode prog_9_method_5_code 21 = .ok (.if_icmp .ge 80, 3) := D_162 W_prog_9_method_5_code_0 21 rfl rfl rfl
theorem d_9_5_24 : decode prog_9_method_5_code 24 = .ok (.aload_n 0, 1) := D_42 W_prog_9_method_5_code_0 24 rfl rfl
theorem d_9_5_25 : decode prog_9_method_5_code 25 = .ok (.iload 4, 2) := D_21 W_prog_9_method_5_code_0 25 rfl rfl
theorem d_9_5_27 : decode prog_9_method_5_code 27 = .ok (.invokevirtual 70, 3) := D_182 W_prog_9_method_5_code_0 27 rfl rfl rfl
theorem W_prog_9_method_14_code_0 : chW prog_9_method_14_code 0 [42, 180, 0, 26, 18, 221, 27, 16, 7, 184, 0, 120, 182, 0, 223, 182, 0, 151, 3, 62, 29, 28, 184, 0, 141, 162, 0, 27, 42, 180, 0, 26, 28, 158, 0, 8] := chW_of (by decide +kernel)
theorem d_9_14_0 : decode prog_9_method_14_code 0 = .ok (.aload_n 0, 1) := D_42 W_prog_9_method_14_code_0 0 rfl rfl
theorem d_9_14_1 : decode prog_9_method_14_code 1 = .ok (.getfield 26, 3) := D_180 W_prog_9_method_14_code_0 1 rfl rfl rfl
theorem d_9_14_4 : decode prog_9_method_14_code 4 = .ok (.ldc 221, 2) := D_18 W_prog_9_method_14_code_0 4 rfl rfl
theorem d_9_14_6 : decode prog_9_method_14_code 6 = .ok (.iload_n 1, 1) := D_27 W_prog_9_method_14_code_0 6 rfl rfl
theorem d_9_14_7 : decode prog_9_method_14_code 7 = .ok (.bipush 7, 2) := D_16 W_prog_9_method_14_code_0 7 rfl rfl rfl
theorem d_9_14_9 : decode prog_9_method_14_code 9 = .ok (.invokestatic 120, 3) := D_184 W_prog_9_method_14_code_0 9 rfl rfl rfl
theorem d_9_14_12 : decode prog_9_method_14_code 12 = .ok (.invokevirtual 223, 3) := D_182 W_prog_9_method_14_code_0 12 rfl rfl rfl
theorem W_prog_7_method_25_code_0 : chW prog_7_method_25_code 0 [43, 180, 1, 0, 4, 184, 0, 144, 133, 55, 4, 42, 180, 0, 23, 7, 50, 28, 46, 133, 20, 1, 30, 105, 22, 4, 109, 136, 54, 6, 42, 180, 0, 23, 8, 50] := chW_of (by decide +kernel)
theorem d_7_25_0 : decode prog_7_method_25_code 0 = .ok (.aload_n 1, 1) := D_43 W_prog_7_method_25_code_0 0 rfl rfl
theorem d_7_25_1 : decode prog_7_method_25_code 1 = .ok (.getfield 256, 3) := D_180 W_prog_7_method_25_code_0 1 rfl rfl rfl
theorem d_7_25_4 : decode prog_7_method_25_code 4 = .ok (.iconst 1, 1) := D_4 W_prog_7_method_25_code_0 4 rfl rfl
theorem d_7_25_5 : decode prog_7_method_25_code 5 = .ok (.invokestatic 144, 3) := D_184 W_prog_7_method_25_code_0 5 rfl rfl rfl
theorem d_7_25_8 : decode prog_7_method_25_code 8 = .ok (.i2l, 1) := D_133 W_prog_7_method_25_code_0 8 rfl rfl
theorem d_7_25_9 : decode prog_7_method_25_code 9 = .ok (.lstore 4, 2) := D_55 W_prog_7_method_25_code_0 9 rfl rfl
theorem d_7_25_11 : decode prog_7_method_25_code 11 = .ok (.aload_n 0, 1) := D_42 W_prog_7_method_25_code_0 11 rfl rfl
theorem d_7_25_12 : decode prog_7_method_25_code 12 = .ok (.getfield 23, 3) := D_180 W_prog_7_method_25_code_0 12 rfl rfl rfl
theorem d_7_25_15 : decode prog_7_method_25_code 15 = .ok (.iconst 4, 1) := D_7 W_prog_7_method_25_code_0 15 rfl rfl
theorem d_7_25_16 : decode prog_7_method_25_code 16 = .ok (.aaload, 1) := D_50 W_prog_7_method_25_code_0 16 rfl rfl
theorem d_7_25_17 : decode prog_7_method_25_code 17 = .ok (.iload_n 2, 1) := D_28 W_prog_7_method_25_code_0 17 rfl rfl
theorem d_7_25_18 : decode prog_7_method_25_code 18 = .ok (.iaload, 1) := D_46 W_prog_7_method_25_code_0 18 rfl rfl
theorem d_7_25_19 : decode prog_7_method_25_code 19 = .ok (.i2l, 1) := D_133 W_prog_7_method_25_code_0 19 rfl rfl
theorem d_7_25_20 : decode prog_7_method_25_code 20 = .ok (.ldc2_w 286, 3) := D_20 W_prog_7_method_25_code_0 20 rfl rfl rfl
theorem d_7_25_23 : decode prog_7_method_25_code 23 = .ok (.lmul, 1) := D_105 W_prog_7_method_25_code_0 23 rfl rfl
theorem d_7_25_24 : decode prog_7_method_25_code 24 = .ok (.lload 4, 2) := D_22 W_prog_7_method_25_code_0 24 rfl rfl
theorem d_7_25_26 : decode prog_7_method_25_code 26 = .ok (.ldiv, 1) := D_109 W_prog_7_method_25_code_0 26 rfl rfl
theorem d_7_25_27 : decode prog_7_method_25_code 27 = .ok (.l2i, 1) := D_136 W_prog_7_method_25_code_0 27 rfl rfl
theorem d_7_25_28 : decode prog_7_method_25_code 28 = .ok (.istore 6, 2) := D_54 W_prog_7_method_25_code_0 28 rfl rfl
theorem d_7_25_30 : decode prog_7_method_25_code 30 = .ok (.aload_n 0, 1) := D_42 W_prog_7_method_25_code_0 30 rfl rfl
theorem d_7_25_31 : decode prog_7_method_25_code 31 = .ok (.getfield 23, 3) := D_180 W_prog_7_method_25_code_0 31 rfl rfl rfl
theorem W_prog_7_method_25_code_32 : chW prog_7_method_25_code 32 [0, 23, 8, 50, 28, 46, 133, 20, 1, 30, 105, 22, 4, 109, 136, 54, 7, 21, 6, 42, 180, 0, 159, 184, 0, 144, 54, 8, 21, 7, 17, 1, 144, 96, 42, 180] := chW_of (by decide +kernel)
theorem d_7_25_34 : decode prog_7_method_25_code 34 = .ok (.iconst 5, 1) := D_8 W_prog_7_method_25_code_32 2 rfl rfl
theorem d_7_25_35 : decode prog_7_method_25_code 35 = .ok (.aaload, 1) := D_50 W_prog_7_method_25_code_32 3 rfl rfl
theorem d_7_25_36 : decode prog_7_method_25_code 36 = .ok (.iload_n 2, 1) := D_28 W_prog_7_method_25_code_32 4 rfl rfl
theorem d_7_25_37 : decode prog_7_method_25_code 37 = .ok (.iaload, 1) := D_46 W_prog_7_method_25_code_32 5 rfl rfl
theorem d_7_25_38 : decode prog_7_method_25_code 38 = .ok (.i2l, 1) := D_133 W_prog_7_method_25_code_32 6 rfl rfl
theorem d_7_25_39 : decode prog_7_method_25_code 39 = .ok (.ldc2_w 286, 3) := D_20 W_prog_7_method_25_code_32 7 rfl rfl rfl
theorem d_7_25_42 : decode prog_7_method_25_code 42 = .ok (.lmul, 1) := D_105 W_prog_7_method_25_code_32 10 rfl rfl
theorem d_7_25_43 : decode prog_7_method_25_code 43 = .ok (.lload 4, 2) := D_22 W_prog_7_method_25_code_32 11 rfl rfl
theorem d_7_25_45 : decode prog_7_method_25_code 45 = .ok (.ldiv, 1) := D_109 W_prog_7_method_25_code_32 13 rfl rfl
theorem d_7_25_46 : decode prog_7_method_25_code 46 = .ok (.l2i, 1) := D_136 W_prog_7_method_25_code_32 14 rfl rfl
theorem d_7_25_47 : decode prog_7_method_25_code 47 = .ok (.istore 7, 2) := D_54 W_prog_7_method_25_code_32 15 rfl rfl
theorem d_7_25_49 : decode prog_7_method_25_code 49 = .ok (.iload 6, 2) := D_21 W_prog_7_method_25_code_32 17 rfl rfl
theorem d_7_25_51 : decode prog_7_method_25_code 51 = .ok (.aload_n 0, 1) := D_42 W_prog_7_method_25_code_32 19 rfl rfl
theorem d_7_25_52 : decode prog_7_method_25_code 52 = .ok (.getfield 159, 3) := D_180 W_prog_7_method_25_code_32 20 rfl rfl rfl
theorem d_7_25_55 : decode prog_7_method_25_code 55 = .ok (.invokestatic 144, 3) := D_184 W_prog_7_method_25_code_32 23 rfl rfl rfl
theorem d_7_25_58 : decode prog_7_method_25_code 58 = .ok (.istore 8, 2) := D_54 W_prog_7_method_25_code_32 26 rfl rfl
theorem d_7_25_60 : decode prog_7_method_25_code 60 = .ok (.iload 7, 2) := D_21 W_prog_7_method_25_code_32 28 rfl rfl
theorem d_7_25_62 : decode prog_7_method_25_code 62 = .ok (.sipush 400, 3) := D_17 W_prog_7_method_25_code_32 30 rfl rfl rfl
theorem W_prog_7_method_25_code_64 : chW prog_7_method_25_code 64 [144, 96, 42, 180, 0, 159, 29, 96, 184, 0, 99, 54, 9, 21, 8, 21, 9, 161, 0, 4, 177, 42, 180, 0, 23, 5, 50, 28, 46, 184, 1, 32, 136, 54, 10, 43] := chW_of (by decide +kernel)
theorem d_7_25_65 : decode prog_7_method_25_code 65 = .ok (.iadd, 1) := D_96 W_prog_7_method_25_code_64 1 rfl rfl
theorem d_7_25_66 : decode prog_7_method_25_code 66 = .ok (.aload_n 0, 1) := D_42 W_prog_7_method_25_code_64 2 rfl rfl
theorem d_7_25_67 : decode prog_7_method_25_code 67 = .ok (.getfield 159, 3) := D_180 W_prog_7_method_25_code_64 3 rfl rfl rfl
theorem d_7_25_70 : decode prog_7_method_25_code 70 = .ok (.iload_n 3, 1) := D_29 W_prog_7_method_25_code_64 6 rfl rfl
theorem d_7_25_71 : decode prog_7_method_25_code 71 = .ok (.iadd, 1) := D_96 W_prog_7_method_25_code_64 7 rfl rfl
theorem d_7_25_72 : decode prog_7_method_25_code 72 = .ok (.invokestatic 99, 3) := D_184 W_prog_7_method_25_code_64 8 rfl rfl rfl
theorem d_7_25_75 : decode prog_7_method_25_code 75 = .ok (.istore 9, 2) := D_54 W_prog_7_method_25_code_64 11 rfl rfl
theorem d_7_25_77 : decode prog_7_method_25_code 77 = .ok (.iload 8, 2) := D_21 W_prog_7_method_25_code_64 13 rfl rfl
theorem d_7_25_79 : decode prog_7_method_25_code 79 = .ok (.iload 9, 2) := D_21 W_prog_7_method_25_code_64 15 rfl rfl
theorem d_7_25_81 : decode prog_7_method_25_code 81 = .ok (.if_icmp .lt 4, 3) := D_161 W_prog_7_method_25_code_64 17 rfl rfl rfl
theorem d_7_25_85 : decode prog_7_method_25_code 85 = .ok (.aload_n 0, 1) := D_42 W_prog_7_method_25_code_64 21 rfl rfl
theorem d_7_25_86 : decode prog_7_method_25_code 86 = .ok (.getfield 23, 3) := D_180 W_prog_7_method_25_code_64 22 rfl rfl rfl
theorem d_7_25_89 : decode prog_7_method_25_code 89 = .ok (.iconst 2, 1) := D_5 W_prog_7_method_25_code_64 25 rfl rfl
theorem d_7_25_90 : decode prog_7_method_25_code 90 = .ok (.aaload, 1) := D_50 W_prog_7_method_25_code_64 26 rfl rfl
theorem d_7_25_91 : decode prog_7_method_25_code 91 = .ok (.iload_n 2, 1) := D_28 W_prog_7_method_25_code_64 27 rfl rfl
theorem d_7_25_92 : decode prog_7_method_25_code 92 = .ok (.iaload, 1) := D_46 W_prog_7_method_25_code_64 28 rfl rfl
theorem d_7_25_93 : decode prog_7_method_25_code 93 = .ok (.invokestatic 288, 3) := D_184 W_prog_7_method_25_code_64 29 rfl rfl rfl
theorem d_6_17_58 : decode prog_6_method_17_code 58 = .ok (.iastore, 1) := D_79 W_prog_6_method_17_code_32 26 rfl rfl
theorem d_6_17_59 : decode prog_6_method_17_code 59 = .ok (.iinc 4 1, 3) := D_132 W_prog_6_method_17_code_32 27 rfl rfl rfl
theorem d_6_17_62 : decode prog_6_method_17_code 62 = .ok (.goto (-26), 3) := D_167 W_prog_6_method_17_code_32 30 rfl rfl rfl
theorem W_prog_6_method_17_code_64 : chW prog_6_method_17_code 64 [230, 42, 29, 182, 0, 191, 154, 0, 15, 42, 29, 182, 0, 194, 154, 0, 7, 4, 167, 0, 4, 3, 54, 4, 42, 180, 0, 19, 16, 7, 50, 29, 21, 4, 153, 0] := chW_of (by decide +kernel)
theorem d_6_17_65 : decode prog_6_method_17_code 65 = .ok (.aload_n 0, 1) := D_42 W_prog_6_method_17_code_64 1 rfl rfl
theorem d_6_17_66 : decode prog_6_method_17_code 66 = .ok (.iload_n 3, 1) := D_29 W_prog_6_method_17_code_64 2 rfl rfl
theorem d_6_17_67 : decode prog_6_method_17_code 67 = .ok (.invokevirtual 191, 3) := D_182 W_prog_6_method_17_code_64 3 rfl rfl rfl
theorem d_6_17_70 : decode prog_6_method_17_code 70 = .ok (.ifCond .ne 15, 3) := D_154 W_prog_6_method_17_code_64 6 rfl rfl rfl
theorem d_6_17_73 : decode prog_6_method_17_code 73 = .ok (.aload_n 0, 1) := D_42 W_prog_6_method_17_code_64 9 rfl rfl
theorem d_6_17_74 : decode prog_6_method_17_code 74 = .ok (.iload_n 3, 1) := D_29 W_prog_6_method_17_code_64 10 rfl rfl
theorem d_6_17_75 : decode prog_6_method_17_code 75 = .ok (.invokevirtual 194, 3) := D_182 W_prog_6_method_17_code_64 11 rfl rfl rfl
theorem d_6_17_78 : decode prog_6_method_17_code 78 = .ok (.ifCond .ne 7, 3) := D_154 W_prog_6_method_17_code_64 14 rfl rfl rfl
theorem d_6_17_81 : decode prog_6_method_17_code 81 = .ok (.iconst 1, 1) := D_4 W_prog_6_method_17_code_64 17 rfl rfl
theorem d_6_17_82 : decode prog_6_method_17_code 82 = .ok (.goto 4, 3) := D_167 W_prog_6_method_17_code_64 18 rfl rfl rfl
theorem d_6_17_86 : decode prog_6_method_17_code 86 = .ok (.istore 4, 2) := D_54 W_prog_6_method_17_code_64 22 rfl rfl
theorem d_6_17_88 : decode prog_6_method_17_code 88 = .ok (.aload_n 0, 1) := D_42 W_prog_6_method_17_code_64 24 rfl rfl
theorem d_6_17_89 : decode prog_6_method_17_code 89 = .ok (.getfield 19, 3) := D_180 W_prog_6_method_17_code_64 25 rfl rfl rfl
theorem d_6_17_92 : decode prog_6_method_17_code 92 = .ok (.bipush 7, 2) := D_16 W_prog_6_method_17_code_64 28 rfl rfl rfl
theorem d_6_17_94 : decode prog_6_method_17_code 94 = .ok (.aaload, 1) := D_50 W_prog_6_method_17_code_64 30 rfl rfl
theorem d_6_17_95 : decode prog_6_method_17_code 95 = .ok (.iload_n 3, 1) := D_29 W_prog_6_method_17_code_64 31 rfl rfl
theorem d_6_17_96 : decode prog_6_method_17_code 96 = .ok (.iload 4, 2) := D_21 W_prog_6_method_17_code_96 0 rfl rfl
theorem d_6_17_98 : decode prog_6_method_17_code 98 = .ok (.ifCond .eq 18, 3) := D_153 W_prog_6_method_17_code_96 2 rfl rfl rfl
theorem d_6_17_116 : decode prog_6_method_17_code 116 = .ok (.iconst 0, 1) := D_3 W_prog_6_method_17_code_96 20 rfl rfl
theorem d_6_17_101 : decode prog_6_method_17_code 101 = .ok (.aload_n 0, 1) := D_42 W_prog_6_method_17_code_96 5 rfl rfl
theorem d_6_17_102 : decode prog_6_method_17_code 102 = .ok (.aload_n 0, 1) := D_42 W_prog_6_method_17_code_96 6 rfl rfl
theorem d_6_17_103 : decode prog_6_method_17_code 103 = .ok (.getfield 19, 3) := D_180 W_prog_6_method_17_code_96 7 rfl rfl rfl
theorem d_6_17_106 : decode prog_6_method_17_code 106 = .ok (.iconst 0, 1) := D_3 W_prog_6_method_17_code_96 10 rfl rfl
theorem d_6_17_107 : decode prog_6_method_17_code 107 = .ok (.aaload, 1) := D_50 W_prog_6_method_17_code_96 11 rfl rfl
theorem d_6_17_108 : decode prog_6_method_17_code 108 = .ok (.iload_n 3, 1) := D_29 W_prog_6_method_17_code_96 12 rfl rfl
theorem d_6_17_109 : decode prog_6_method_17_code 109 = .ok (.iaload, 1) := D_46 W_prog_6_method_17_code_96 13 rfl rfl
theorem d_6_17_110 : decode prog_6_method_17_code 110 = .ok (.invokevirtual 200, 3) := D_182 W_prog_6_method_17_code_96 14 rfl rfl rfl
theorem d_7_10_27 : decode prog_7_method_10_code 27 = .ok (.istore 5, 2) := D_54 W_prog_7_method_10_code_0 27 rfl rfl
theorem d_7_10_29 : decode prog_7_method_10_code 29 = .ok (.aload 4, 2) := D_25 W_prog_7_method_10_code_0 29 rfl rfl
theorem d_7_10_31 : decode prog_7_method_10_code 31 = .ok (.iconst 0, 1) := D_3 W_prog_7_method_10_code_0 31 rfl rfl
theorem W_prog_7_method_10_code_32 : chW prog_7_method_10_code 32 [182, 0, 124, 54, 6, 25, 4, 180, 0, 135, 3, 46, 4, 96, 54, 7, 21, 7, 16, 63, 162, 0, 24, 21, 7, 184, 0, 150, 43, 180, 0, 153, 21, 7, 16, 7] := chW_of (by decide +kernel)
theorem d_7_10_32 : decode prog_7_method_10_code 32 = .ok (.invokevirtual 124, 3) := D_182 W_prog_7_method_10_code_32 0 rfl rfl rfl
theorem d_7_10_35 : decode prog_7_method_10_code 35 = .ok (.istore 6, 2) := D_54 W_prog_7_method_10_code_32 3 rfl rfl
theorem d_7_10_37 : decode prog_7_method_10_code 37 = .ok (.aload 4, 2) := D_25 W_prog_7_method_10_code_32 5 rfl rfl
theorem d_7_10_39 : decode prog_7_method_10_code 39 = .ok (.getfield 135, 3) := D_180 W_prog_7_method_10_code_32 7 rfl rfl rfl
theorem d_7_10_42 : decode prog_7_method_10_code 42 = .ok (.iconst 0, 1) := D_3 W_prog_7_method_10_code_32 10 rfl rfl
theorem d_7_10_43 : decode prog_7_method_10_code 43 = .ok (.iaload, 1) := D_46 W_prog_7_method_10_code_32 11 rfl rfl
theorem d_7_10_44 : decode prog_7_method_10_code 44 = .ok (.iconst 1, 1) := D_4 W_prog_7_method_10_code_32 12 rfl rfl
theorem d_7_10_45 : decode prog_7_method_10_code 45 = .ok (.iadd, 1) := D_96 W_prog_7_method_10_code_32 13 rfl rfl
theorem d_7_10_46 : decode prog_7_method_10_code 46 = .ok (.istore 7, 2) := D_54 W_prog_7_method_10_code_32 14 rfl rfl
theorem d_7_10_48 : decode prog_7_method_10_code 48 = .ok (.iload 7, 2) := D_21 W_prog_7_method_10_code_32 16 rfl rfl
theorem d_7_10_50 : decode prog_7_method_10_code 50 = .ok (.bipush 63, 2) := D_16 W_prog_7_method_10_code_32 18 rfl rfl rfl
theorem d_7_10_52 : decode prog_7_method_10_code 52 = .ok (.if_icmp .ge 24, 3) := D_162 W_prog_7_method_10_code_32 20 rfl rfl rfl
theorem W_prog_7_method_10_code_64 : chW prog_7_method_10_code 64 [21, 7, 16, 7, 112, 184, 0, 156, 96, 167, 0, 5, 21, 6, 54, 8, 3, 54, 9, 25, 4, 180, 0, 109, 184, 0, 113, 54, 10, 21, 10, 21, 5, 162, 0, 60] := chW_of (by decide +kernel)
theorem d_7_10_76 : decode prog_7_method_10_code 76 = .ok (.iload 6, 2) := D_21 W_prog_7_method_10_code_64 12 rfl rfl
theorem d_7_10_55 : decode prog_7_method_10_code 55 = .ok (.iload 7, 2) := D_21 W_prog_7_method_10_code_32 23 rfl rfl
theorem d_7_10_57 : decode prog_7_method_10_code 57 = .ok (.invokestatic 150, 3) := D_184 W_prog_7_method_10_code_32 25 rfl rfl rfl
theorem d_7_10_60 : decode prog_7_method_10_code 60 = .ok (.aload_n 1, 1) := D_43 W_prog_7_method_10_code_32 28 rfl rfl
theorem d_7_10_61 : decode prog_7_method_10_code 61 = .ok (.getfield 153, 3) := D_180 W_prog_7_method_10_code_32 29 rfl rfl rfl
theorem d_7_10_64 : decode prog_7_method_10_code 64 = .ok (.iload 7, 2) := D_21 W_prog_7_method_10_code_64 0 rfl rfl
theorem d_7_10_66 : decode prog_7_method_10_code 66 = .ok (.bipush 7, 2) := D_16 W_prog_7_method_10_code_64 2 rfl rfl rfl
theorem d_7_10_68 : decode prog_7_method_10_code 68 = .ok (.irem, 1) := D_112 W_prog_7_method_10_code_64 4 rfl rfl
theorem d_7_10_69 : decode prog_7_method_10_code 69 = .ok (.invokestatic 156, 3) := D_184 W_prog_7_method_10_code_64 5 rfl rfl rfl
theorem d_7_10_72 : decode prog_7_method_10_code 72 = .ok (.iadd, 1) := D_96 W_prog_7_method_10_code_64 8 rfl rfl
theorem d_7_10_73 : decode prog_7_method_10_code 73 = .ok (.goto 5, 3) := D_167 W_prog_7_method_10_code_64 9 rfl rfl rfl
theorem d_7_10_78 : decode prog_7_method_10_code 78 = .ok (.istore 8, 2) := D_54 W_prog_7_method_10_code_64 14 rfl rfl
theorem d_7_10_80 : decode prog_7_method_10_code 80 = .ok (.iconst 0, 1) := D_3 W_prog_7_method_10_code_64 16 rfl rfl
theorem d_7_10_81 : decode prog_7_method_10_code 81 = .ok (.istore 9, 2) := D_54 W_prog_7_method_10_code_64 17 rfl rfl
theorem d_7_10_83 : decode prog_7_method_10_code 83 = .ok (.aload 4, 2) := D_25 W_prog_7_method_10_code_64 19 rfl rfl
theorem d_7_10_85 : decode prog_7_method_10_code 85 = .ok (.getfield 109, 3) := D_180 W_prog_7_method_10_code_64 21 rfl rfl rfl
theorem d_7_10_88 : decode prog_7_method_10_code 88 = .ok (.invokestatic 113, 3) := D_184 W_prog_7_method_10_code_64 24 rfl rfl rfl
theorem d_7_10_91 : decode prog_7_method_10_code 91 = .ok (.istore 10, 2) := D_54 W_prog_7_method_10_code_64 27 rfl rfl
theorem d_7_10_93 : decode prog_7_method_10_code 93 = .ok (.iload 10, 2) := D_21 W_prog_7_method_10_code_64 29 rfl rfl
theorem d_7_10_95 : decode prog_7_method_10_code 95 = .ok (.iload 5, 2) := D_21 W_prog_7_method_10_code_64 31 rfl rfl
theorem W_prog_7_method_10_code_96 : chW prog_7_method_10_code 96 [5, 162, 0, 60, 42, 180, 0, 40, 154, 0, 53, 42, 28, 29, 21, 9, 153, 0, 8, 21, 8, 167, 0, 5, 21, 6, 25, 4, 21, 10, 21, 10, 16, 12, 96, 21] := chW_of (by decide +kernel)
theorem d_7_10_97 : decode prog_7_method_10_code 97 = .ok (.if_icmp .ge 60, 3) := D_162 W_prog_7_method_10_code_96 1 rfl rfl rfl
theorem d_7_10_100 : decode prog_7_method_10_code 100 = .ok (.aload_n 0, 1) := D_42 W_prog_7_method_10_code_96 4 rfl rfl
theorem d_7_10_101 : decode prog_7_method_10_code 101 = .ok (.getfield 40, 3) := D_180 W_prog_7_method_10_code_96 5 rfl rfl rfl
theorem d_7_10_104 : decode prog_7_method_10_code 104 = .ok (.ifCond .ne 53, 3) := D_154 W_prog_7_method_10_code_96 8 rfl rfl rfl
theorem d_7_10_107 : decode prog_7_method_10_code 107 = .ok (.aload_n 0, 1) := D_42 W_prog_7_method_10_code_96 11 rfl rfl
theorem d_7_10_108 : decode prog_7_method_10_code 108 = .ok (.iload_n 2, 1) := D_28 W_prog_7_method_10_code_96 12 rfl rfl
theorem d_7_10_109 : decode prog_7_method_10_code 109 = .ok (.iload_n 3, 1) := D_29 W_prog_7_method_10_code_96 13 rfl rfl
theorem d_7_10_110 : decode prog_7_method_10_code 110 = .ok (.iload 9, 2) := D_21 W_prog_7_method_10_code_96 14 rfl rfl
theorem d_7_10_112 : decode prog_7_method_10_code 112 = .ok (.ifCond .eq 8, 3) := D_153 W_prog_7_method_10_code_96 16 rfl rfl rfl
theorem d_7_10_120 : decode prog_7_method_10_code 120 = .ok (.iload 6, 2) := D_21 W_prog_7_method_10_code_96 24 rfl rfl
theorem d_7_10_115 : decode prog_7_method_10_code 115 = .ok (.iload 8, 2) := D_21 W_prog_7_method_10_code_96 19 rfl rfl
theorem d_7_10_117 : decode prog_7_method_10_code 117 = .ok (.goto 5, 3) := D_167 W_prog_7_method_10_code_96 21 rfl rfl rfl
theorem d_7_10_122 : decode prog_7_method_10_code 122 = .ok (.aload 4, 2) := D_25 W_prog_7_method_10_code_96 26 rfl rfl
theorem d_7_10_124 : decode prog_7_method_10_code 124 = .ok (.iload 10, 2) := D_21 W_prog_7_method_10_code_96 28 rfl rfl
theorem d_7_10_126 : decode prog_7_method_10_code 126 = .ok (.iload 10, 2) := D_21 W_prog_7_method_10_code_96 30 rfl rfl
theorem W_prog_7_method_10_code_128 : chW prog_7_method_10_code 128 [16, 12, 96, 21, 5, 184, 0, 99, 182, 0, 131, 21, 9, 154, 0, 7, 4, 167, 0, 4, 3, 54, 9, 132, 10, 12, 167, 255, 195, 177] := chW_of (by decide +kernel)
theorem d_7_10_128 : decode prog_7_method_10_code 128 = .ok (.bipush 12, 2) := D_16 W_prog_7_method_10_code_128 0 rfl rfl rfl
theorem d_7_10_130 : decode prog_7_method_10_code 130 = .ok (.iadd, 1) := D_96 W_prog_7_method_10_code_128 2 rfl rfl
theorem d_7_10_131 : decode prog_7_method_10_code 131 = .ok (.iload 5, 2) := D_21 W_prog_7_method_10_code_128 3 rfl rfl
theorem d_7_10_133 : decode prog_7_method_10_code 133 = .ok (.invokestatic 99, 3) := D_184 W_prog_7_method_10_code_128 5 rfl rfl rfl
theorem d_7_10_136 : decode prog_7_method_10_code 136 = .ok (.invokevirtual 131, 3) := D_182 W_prog_7_method_10_code_128 8 rfl rfl rfl
