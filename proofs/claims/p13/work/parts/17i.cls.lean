theorem k_2_186 : (Jvm.Cond.fieldLink "StaveHouse$Performance" (52 : Nat) "StaveHouse$Piece" "parts" "[LStaveHouse$Part;") ∈ wAll := wA_2 (j := 186) rfl rfl
theorem k_6_68 : (Jvm.Cond.fieldLink "StaveHouse$Performance" (159 : Nat) "StaveHouse$Performance" "made" "I") ∈ wAll := wA_6 (j := 68) rfl rfl
theorem k_7_235 : (Jvm.Cond.fieldLink "StaveHouse$SoundFile" (127 : Nat) "StaveHouse$SoundFile" "trackDone" "Z") ∈ wAll := wA_7 (j := 235) rfl rfl
theorem k_2_99 : (Jvm.Cond.fieldLink "StaveHouse$Scribe" (26 : Nat) "StaveHouse$Scribe" "page" "LStaveHouse$ByteRow;") ∈ wAll := wA_2 (j := 99) rfl rfl
theorem k_8_148 : (Jvm.Cond.methodLink "StaveHouse$Scribe" (70 : Nat) ({ cls := "StaveHouse$Scribe", name := "trackEnd", desc := "(I)I" } : Jvm.MethodName)) ∈ wAll := wA_8 (j := 148) rfl rfl
theorem k_8_150 : (Jvm.Cond.instanceMethod ({ cls := "StaveHouse$Scribe", name := "trackEnd", desc := "(I)I" } : Jvm.MethodName)) ∈ wAll := wA_8 (j := 150) rfl rfl
theorem ks_112 : (Jvm.Cond.selects "StaveHouse$Scribe" ({ cls := "StaveHouse$Scribe", name := "trackEnd", desc := "(I)I" } : Jvm.MethodName) ({ cls := "StaveHouse$Scribe", name := "trackEnd", desc := "(I)I" } : Jvm.MethodName)) ∈ wAll := wA_s (j := 112) rfl rfl
theorem k_8_151 : (Jvm.Cond.code ({ cls := "StaveHouse$Scribe", name := "trackEnd", desc := "(I)I" } : Jvm.MethodName) prog_9_method_3_code (4 : Nat) (Option.some Jvm.ClassFile.FieldType.int)) ∈ wAll := wA_8 (j := 151) rfl rfl
theorem k_8_180 : (Jvm.Cond.methodLink "StaveHouse$Scribe" (151 : Nat) ({ cls := "StaveHouse$ByteRow", name := "put", desc := "(I)V" } : Jvm.MethodName)) ∈ wAll := wA_8 (j := 180) rfl rfl
theorem k_6_75 : (Jvm.Cond.fieldLink "StaveHouse$Performance" (18 : Nat) "StaveHouse$Performance" "mix" "[I") ∈ wAll := wA_6 (j := 75) rfl rfl
theorem k_2_220 : (Jvm.Cond.fieldLink "StaveHouse$Performance" (256 : Nat) "StaveHouse$Piece" "tempo" "I") ∈ wAll := wA_2 (j := 220) rfl rfl
theorem k_9_6 : (Jvm.Cond.constantLong "StaveHouse$Performance" (286 : Nat) (5000 : Int64)) ∈ wAll := wA_9 (j := 6) rfl rfl
theorem k_2_199 : (Jvm.Cond.fieldLink "StaveHouse$Performance" (153 : Nat) "StaveHouse$Piece" "fifths" "I") ∈ wAll := wA_2 (j := 199) rfl rfl
theorem k_2_23 : (Jvm.Cond.fieldLink "StaveHouse" (193 : Nat) "StaveHouse$Event" "place" "J") ∈ wAll := wA_2 (j := 23) rfl rfl
theorem k_9_7 : (Jvm.Cond.methodLink "StaveHouse$Performance" (288 : Nat) ({ cls := "StaveHouse$Performance", name := "turn", desc := "(I)J" } : Jvm.MethodName)) ∈ wAll := wA_9 (j := 7) rfl rfl
theorem k_9_8 : (Jvm.Cond.static ({ cls := "StaveHouse$Performance", name := "turn", desc := "(I)J" } : Jvm.MethodName)) ∈ wAll := wA_9 (j := 8) rfl rfl
theorem k_9_9 : (Jvm.Cond.code ({ cls := "StaveHouse$Performance", name := "turn", desc := "(I)J" } : Jvm.MethodName) prog_7_method_26_code (4 : Nat) (Option.some Jvm.ClassFile.FieldType.long)) ∈ wAll := wA_9 (j := 9) rfl rfl
theorem k_4_124 : (Jvm.Cond.fieldLink "StaveHouse$Performance" (266 : Nat) "StaveHouse$Part" "number" "I") ∈ wAll := wA_4 (j := 124) rfl rfl
theorem k_9_12 : (Jvm.Cond.methodLink "StaveHouse$Performance" (292 : Nat) ({ cls := "StaveHouse$Performance", name := "wave", desc := "(II)I" } : Jvm.MethodName)) ∈ wAll := wA_9 (j := 12) rfl rfl
theorem k_9_13 : (Jvm.Cond.static ({ cls := "StaveHouse$Performance", name := "wave", desc := "(II)I" } : Jvm.MethodName)) ∈ wAll := wA_9 (j := 13) rfl rfl
theorem k_9_14 : (Jvm.Cond.code ({ cls := "StaveHouse$Performance", name := "wave", desc := "(II)I" } : Jvm.MethodName) prog_7_method_27_code (3 : Nat) (Option.some Jvm.ClassFile.FieldType.int)) ∈ wAll := wA_9 (j := 14) rfl rfl
theorem k_5_121 : (Jvm.Cond.methodLink "StaveHouse$Part" (200 : Nat) ({ cls := "StaveHouse$Part", name := "accidentalsOf", desc := "(I)I" } : Jvm.MethodName)) ∈ wAll := wA_5 (j := 121) rfl rfl
theorem k_5_123 : (Jvm.Cond.instanceMethod ({ cls := "StaveHouse$Part", name := "accidentalsOf", desc := "(I)I" } : Jvm.MethodName)) ∈ wAll := wA_5 (j := 123) rfl rfl
theorem ks_57 : (Jvm.Cond.selects "StaveHouse$Part" ({ cls := "StaveHouse$Part", name := "accidentalsOf", desc := "(I)I" } : Jvm.MethodName) ({ cls := "StaveHouse$Part", name := "accidentalsOf", desc := "(I)I" } : Jvm.MethodName)) ∈ wAll := wA_s (j := 57) rfl rfl
theorem k_5_124 : (Jvm.Cond.code ({ cls := "StaveHouse$Part", name := "accidentalsOf", desc := "(I)I" } : Jvm.MethodName) prog_6_method_18_code (6 : Nat) (Option.some Jvm.ClassFile.FieldType.int)) ∈ wAll := wA_5 (j := 124) rfl rfl
theorem k_6_21 : (Jvm.Cond.methodLink "StaveHouse$Event" (33 : Nat) ({ cls := "StaveHouse$Event", name := "tone", desc := "(I)I" } : Jvm.MethodName)) ∈ wAll := wA_6 (j := 21) rfl rfl
theorem k_6_31 : (Jvm.Cond.methodLink "StaveHouse$Study" (111 : Nat) ({ cls := "StaveHouse$Study", name := "isFaultOfTwo", desc := "(III)Z" } : Jvm.MethodName)) ∈ wAll := wA_6 (j := 31) rfl rfl
theorem k_6_33 : (Jvm.Cond.instanceMethod ({ cls := "StaveHouse$Study", name := "isFaultOfTwo", desc := "(III)Z" } : Jvm.MethodName)) ∈ wAll := wA_6 (j := 33) rfl rfl
theorem ks_71 : (Jvm.Cond.selects "StaveHouse$Study" ({ cls := "StaveHouse$Study", name := "isFaultOfTwo", desc := "(III)Z" } : Jvm.MethodName) ({ cls := "StaveHouse$Study", name := "isFaultOfTwo", desc := "(III)Z" } : Jvm.MethodName)) ∈ wAll := wA_s (j := 71) rfl rfl
theorem k_6_34 : (Jvm.Cond.code ({ cls := "StaveHouse$Study", name := "isFaultOfTwo", desc := "(III)Z" } : Jvm.MethodName) prog_11_method_9_code (10 : Nat) (Option.some Jvm.ClassFile.FieldType.boolean)) ∈ wAll := wA_6 (j := 34) rfl rfl
theorem k_6_40 : (Jvm.Cond.methodLink "StaveHouse$Study" (115 : Nat) ({ cls := "StaveHouse$Study", name := "addFault", desc := "(IIII)V" } : Jvm.MethodName)) ∈ wAll := wA_6 (j := 40) rfl rfl
theorem k_6_42 : (Jvm.Cond.instanceMethod ({ cls := "StaveHouse$Study", name := "addFault", desc := "(IIII)V" } : Jvm.MethodName)) ∈ wAll := wA_6 (j := 42) rfl rfl
theorem ks_72 : (Jvm.Cond.selects "StaveHouse$Study" ({ cls := "StaveHouse$Study", name := "addFault", desc := "(IIII)V" } : Jvm.MethodName) ({ cls := "StaveHouse$Study", name := "addFault", desc := "(IIII)V" } : Jvm.MethodName)) ∈ wAll := wA_s (j := 72) rfl rfl
theorem k_6_43 : (Jvm.Cond.code ({ cls := "StaveHouse$Study", name := "addFault", desc := "(IIII)V" } : Jvm.MethodName) prog_11_method_8_code (5 : Nat) (Option.none : Option Jvm.ClassFile.FieldType)) ∈ wAll := wA_6 (j := 43) rfl rfl
theorem k_6_44 : (Jvm.Cond.methodLink "StaveHouse$Study" (119 : Nat) ({ cls := "StaveHouse$Study", name := "isFaultOfOne", desc := "(II)Z" } : Jvm.MethodName)) ∈ wAll := wA_6 (j := 44) rfl rfl
theorem k_6_46 : (Jvm.Cond.instanceMethod ({ cls := "StaveHouse$Study", name := "isFaultOfOne", desc := "(II)Z" } : Jvm.MethodName)) ∈ wAll := wA_6 (j := 46) rfl rfl
theorem ks_73 : (Jvm.Cond.selects "StaveHouse$Study" ({ cls := "StaveHouse$Study", name := "isFaultOfOne", desc := "(II)Z" } : Jvm.MethodName) ({ cls := "StaveHouse$Study", name := "isFaultOfOne", desc := "(II)Z" } : Jvm.MethodName)) ∈ wAll := wA_s (j := 73) rfl rfl
theorem k_6_47 : (Jvm.Cond.code ({ cls := "StaveHouse$Study", name := "isFaultOfOne", desc := "(II)Z" } : Jvm.MethodName) prog_11_method_11_code (7 : Nat) (Option.some Jvm.ClassFile.FieldType.boolean)) ∈ wAll := wA_6 (j := 47) rfl rfl
theorem k_6_120 : (Jvm.Cond.methodLink "StaveHouse$Performance" (84 : Nat) ({ cls := "StaveHouse$Part", name := "tiedPitches", desc := "(I)I" } : Jvm.MethodName)) ∈ wAll := wA_6 (j := 120) rfl rfl
theorem k_2_26 : (Jvm.Cond.fieldLink "StaveHouse" (203 : Nat) "StaveHouse$Event" "length" "J") ∈ wAll := wA_2 (j := 26) rfl rfl
theorem k_2_40 : (Jvm.Cond.fieldLink "StaveHouse" (207 : Nat) "StaveHouse$Event" "marks" "I") ∈ wAll := wA_2 (j := 40) rfl rfl
theorem k_2_43 : (Jvm.Cond.fieldLink "StaveHouse" (210 : Nat) "StaveHouse$Event" "loud" "I") ∈ wAll := wA_2 (j := 43) rfl rfl
theorem k_2_46 : (Jvm.Cond.fieldLink "StaveHouse" (213 : Nat) "StaveHouse$Event" "token" "I") ∈ wAll := wA_2 (j := 46) rfl rfl
theorem k_7_30 : (Jvm.Cond.methodLink "StaveHouse$Layout" (91 : Nat) ({ cls := "StaveHouse$Layout", name := "nextPlace", desc := "(LStaveHouse$Piece;I)J" } : Jvm.MethodName)) ∈ wAll := wA_7 (j := 30) rfl rfl
theorem k_7_32 : (Jvm.Cond.instanceMethod ({ cls := "StaveHouse$Layout", name := "nextPlace", desc := "(LStaveHouse$Piece;I)J" } : Jvm.MethodName)) ∈ wAll := wA_7 (j := 32) rfl rfl
theorem ks_81 : (Jvm.Cond.selects "StaveHouse$Layout" ({ cls := "StaveHouse$Layout", name := "nextPlace", desc := "(LStaveHouse$Piece;I)J" } : Jvm.MethodName) ({ cls := "StaveHouse$Layout", name := "nextPlace", desc := "(LStaveHouse$Piece;I)J" } : Jvm.MethodName)) ∈ wAll := wA_s (j := 81) rfl rfl
theorem k_7_33 : (Jvm.Cond.code ({ cls := "StaveHouse$Layout", name := "nextPlace", desc := "(LStaveHouse$Piece;I)J" } : Jvm.MethodName) prog_4_method_5_code (7 : Nat) (Option.some Jvm.ClassFile.FieldType.long)) ∈ wAll := wA_7 (j := 33) rfl rfl
theorem k_7_96 : (Jvm.Cond.methodLink "StaveHouse$Performance" (175 : Nat) ({ cls := "StaveHouse$Performance", name := "sortStrokes", desc := "()V" } : Jvm.MethodName)) ∈ wAll := wA_7 (j := 96) rfl rfl
theorem k_7_98 : (Jvm.Cond.instanceMethod ({ cls := "StaveHouse$Performance", name := "sortStrokes", desc := "()V" } : Jvm.MethodName)) ∈ wAll := wA_7 (j := 98) rfl rfl
theorem ks_87 : (Jvm.Cond.selects "StaveHouse$Performance" ({ cls := "StaveHouse$Performance", name := "sortStrokes", desc := "()V" } : Jvm.MethodName) ({ cls := "StaveHouse$Performance", name := "sortStrokes", desc := "()V" } : Jvm.MethodName)) ∈ wAll := wA_s (j := 87) rfl rfl
theorem k_7_99 : (Jvm.Cond.code ({ cls := "StaveHouse$Performance", name := "sortStrokes", desc := "()V" } : Jvm.MethodName) prog_7_method_13_code (4 : Nat) (Option.none : Option Jvm.ClassFile.FieldType)) ∈ wAll := wA_7 (j := 99) rfl rfl
theorem k_7_91 : (Jvm.Cond.methodLink "StaveHouse$Performance" (171 : Nat) ({ cls := "StaveHouse$Performance", name := "strokeKey", desc := "(IJI)J" } : Jvm.MethodName)) ∈ wAll := wA_7 (j := 91) rfl rfl
theorem k_7_93 : (Jvm.Cond.instanceMethod ({ cls := "StaveHouse$Performance", name := "strokeKey", desc := "(IJI)J" } : Jvm.MethodName)) ∈ wAll := wA_7 (j := 93) rfl rfl
theorem ks_86 : (Jvm.Cond.selects "StaveHouse$Performance" ({ cls := "StaveHouse$Performance", name := "strokeKey", desc := "(IJI)J" } : Jvm.MethodName) ({ cls := "StaveHouse$Performance", name := "strokeKey", desc := "(IJI)J" } : Jvm.MethodName)) ∈ wAll := wA_s (j := 86) rfl rfl
theorem k_7_94 : (Jvm.Cond.code ({ cls := "StaveHouse$Performance", name := "strokeKey", desc := "(IJI)J" } : Jvm.MethodName) prog_7_method_12_code (7 : Nat) (Option.some Jvm.ClassFile.FieldType.long)) ∈ wAll := wA_7 (j := 94) rfl rfl
theorem k_8_84 : (Jvm.Cond.methodLink "StaveHouse$SoundFile" (136 : Nat) ({ cls := "StaveHouse$SoundFile", name := "takeDelta", desc := "()I" } : Jvm.MethodName)) ∈ wAll := wA_8 (j := 84) rfl rfl
theorem k_8_86 : (Jvm.Cond.instanceMethod ({ cls := "StaveHouse$SoundFile", name := "takeDelta", desc := "()I" } : Jvm.MethodName)) ∈ wAll := wA_8 (j := 86) rfl rfl
theorem ks_102 : (Jvm.Cond.selects "StaveHouse$SoundFile" ({ cls := "StaveHouse$SoundFile", name := "takeDelta", desc := "()I" } : Jvm.MethodName) ({ cls := "StaveHouse$SoundFile", name := "takeDelta", desc := "()I" } : Jvm.MethodName)) ∈ wAll := wA_s (j := 102) rfl rfl
theorem k_8_87 : (Jvm.Cond.code ({ cls := "StaveHouse$SoundFile", name := "takeDelta", desc := "()I" } : Jvm.MethodName) prog_10_method_9_code (4 : Nat) (Option.some Jvm.ClassFile.FieldType.int)) ∈ wAll := wA_8 (j := 87) rfl rfl
theorem k_8_70 : (Jvm.Cond.methodLink "StaveHouse$SoundFile" (70 : Nat) ({ cls := "StaveHouse$SoundFile", name := "skip", desc := "(J)V" } : Jvm.MethodName)) ∈ wAll := wA_8 (j := 70) rfl rfl
theorem k_8_72 : (Jvm.Cond.instanceMethod ({ cls := "StaveHouse$SoundFile", name := "skip", desc := "(J)V" } : Jvm.MethodName)) ∈ wAll := wA_8 (j := 72) rfl rfl
theorem ks_99 : (Jvm.Cond.selects "StaveHouse$SoundFile" ({ cls := "StaveHouse$SoundFile", name := "skip", desc := "(J)V" } : Jvm.MethodName) ({ cls := "StaveHouse$SoundFile", name := "skip", desc := "(J)V" } : Jvm.MethodName)) ∈ wAll := wA_s (j := 99) rfl rfl
theorem k_8_73 : (Jvm.Cond.code ({ cls := "StaveHouse$SoundFile", name := "skip", desc := "(J)V" } : Jvm.MethodName) prog_10_method_11_code (3 : Nat) (Option.none : Option Jvm.ClassFile.FieldType)) ∈ wAll := wA_8 (j := 73) rfl rfl
theorem k_8_96 : (Jvm.Cond.methodLink "StaveHouse$SoundFile" (155 : Nat) ({ cls := "StaveHouse$SoundFile", name := "tellTime", desc := "(II)V" } : Jvm.MethodName)) ∈ wAll := wA_8 (j := 96) rfl rfl
theorem k_8_98 : (Jvm.Cond.instanceMethod ({ cls := "StaveHouse$SoundFile", name := "tellTime", desc := "(II)V" } : Jvm.MethodName)) ∈ wAll := wA_8 (j := 98) rfl rfl
theorem ks_105 : (Jvm.Cond.selects "StaveHouse$SoundFile" ({ cls := "StaveHouse$SoundFile", name := "tellTime", desc := "(II)V" } : Jvm.MethodName) ({ cls := "StaveHouse$SoundFile", name := "tellTime", desc := "(II)V" } : Jvm.MethodName)) ∈ wAll := wA_s (j := 105) rfl rfl
theorem k_8_99 : (Jvm.Cond.code ({ cls := "StaveHouse$SoundFile", name := "tellTime", desc := "(II)V" } : Jvm.MethodName) prog_10_method_19_code (3 : Nat) (Option.none : Option Jvm.ClassFile.FieldType)) ∈ wAll := wA_8 (j := 99) rfl rfl
theorem k_8_100 : (Jvm.Cond.methodLink "StaveHouse$SoundFile" (158 : Nat) ({ cls := "StaveHouse$SoundFile", name := "tellKey", desc := "(II)V" } : Jvm.MethodName)) ∈ wAll := wA_8 (j := 100) rfl rfl
theorem k_8_102 : (Jvm.Cond.instanceMethod ({ cls := "StaveHouse$SoundFile", name := "tellKey", desc := "(II)V" } : Jvm.MethodName)) ∈ wAll := wA_8 (j := 102) rfl rfl
theorem ks_106 : (Jvm.Cond.selects "StaveHouse$SoundFile" ({ cls := "StaveHouse$SoundFile", name := "tellKey", desc := "(II)V" } : Jvm.MethodName) ({ cls := "StaveHouse$SoundFile", name := "tellKey", desc := "(II)V" } : Jvm.MethodName)) ∈ wAll := wA_s (j := 106) rfl rfl
theorem k_8_103 : (Jvm.Cond.code ({ cls := "StaveHouse$SoundFile", name := "tellKey", desc := "(II)V" } : Jvm.MethodName) prog_10_method_20_code (3 : Nat) (Option.none : Option Jvm.ClassFile.FieldType)) ∈ wAll := wA_8 (j := 103) rfl rfl
theorem k_8_105 : (Jvm.Cond.constant "StaveHouse$SoundFile" (161 : Nat) (65536 : Int32)) ∈ wAll := wA_8 (j := 105) rfl rfl
theorem k_8_106 : (Jvm.Cond.methodLink "StaveHouse$SoundFile" (162 : Nat) ({ cls := "StaveHouse$SoundFile", name := "tellTempo", desc := "(I)V" } : Jvm.MethodName)) ∈ wAll := wA_8 (j := 106) rfl rfl
theorem k_8_108 : (Jvm.Cond.instanceMethod ({ cls := "StaveHouse$SoundFile", name := "tellTempo", desc := "(I)V" } : Jvm.MethodName)) ∈ wAll := wA_8 (j := 108) rfl rfl
theorem ks_107 : (Jvm.Cond.selects "StaveHouse$SoundFile" ({ cls := "StaveHouse$SoundFile", name := "tellTempo", desc := "(I)V" } : Jvm.MethodName) ({ cls := "StaveHouse$SoundFile", name := "tellTempo", desc := "(I)V" } : Jvm.MethodName)) ∈ wAll := wA_s (j := 107) rfl rfl
theorem k_8_109 : (Jvm.Cond.code ({ cls := "StaveHouse$SoundFile", name := "tellTempo", desc := "(I)V" } : Jvm.MethodName) prog_10_method_21_code (2 : Nat) (Option.none : Option Jvm.ClassFile.FieldType)) ∈ wAll := wA_8 (j := 109) rfl rfl
theorem k_8_152 : (Jvm.Cond.methodLink "StaveHouse$Scribe" (94 : Nat) ({ cls := "StaveHouse$Scribe", name := "gatherEvent", desc := "(II)V" } : Jvm.MethodName)) ∈ wAll := wA_8 (j := 152) rfl rfl
theorem k_8_154 : (Jvm.Cond.instanceMethod ({ cls := "StaveHouse$Scribe", name := "gatherEvent", desc := "(II)V" } : Jvm.MethodName)) ∈ wAll := wA_8 (j := 154) rfl rfl
theorem ks_113 : (Jvm.Cond.selects "StaveHouse$Scribe" ({ cls := "StaveHouse$Scribe", name := "gatherEvent", desc := "(II)V" } : Jvm.MethodName) ({ cls := "StaveHouse$Scribe", name := "gatherEvent", desc := "(II)V" } : Jvm.MethodName)) ∈ wAll := wA_s (j := 113) rfl rfl
theorem k_8_155 : (Jvm.Cond.code ({ cls := "StaveHouse$Scribe", name := "gatherEvent", desc := "(II)V" } : Jvm.MethodName) prog_9_method_6_code (4 : Nat) (Option.none : Option Jvm.ClassFile.FieldType)) ∈ wAll := wA_8 (j := 155) rfl rfl
theorem k_8_217 : (Jvm.Cond.methodLink "StaveHouse$Scribe" (223 : Nat) ({ cls := "java/lang/String", name := "charAt", desc := "(I)C" } : Jvm.MethodName)) ∈ wAll := wA_8 (j := 217) rfl rfl
theorem k_8_173 : (Jvm.Cond.methodLink "StaveHouse$Scribe" (141 : Nat) ({ cls := "java/lang/Math", name := "abs", desc := "(I)I" } : Jvm.MethodName)) ∈ wAll := wA_8 (j := 173) rfl rfl
theorem k_9_16 : (Jvm.Cond.methodLink "StaveHouse$Performance" (295 : Nat) ({ cls := "StaveHouse$Performance", name := "level", desc := "(II)I" } : Jvm.MethodName)) ∈ wAll := wA_9 (j := 16) rfl rfl
theorem k_9_17 : (Jvm.Cond.static ({ cls := "StaveHouse$Performance", name := "level", desc := "(II)I" } : Jvm.MethodName)) ∈ wAll := wA_9 (j := 17) rfl rfl
theorem k_9_18 : (Jvm.Cond.code ({ cls := "StaveHouse$Performance", name := "level", desc := "(II)I" } : Jvm.MethodName) prog_7_method_29_code (2 : Nat) (Option.some Jvm.ClassFile.FieldType.int)) ∈ wAll := wA_9 (j := 18) rfl rfl
theorem W_prog_6_method_17_code_0 : chW prog_6_method_17_code 0 [2, 61, 3, 62, 29, 42, 180, 0, 35, 162, 0, 115, 42, 180, 0, 19, 4, 50, 29, 46, 28, 159, 0, 44, 42, 180, 0, 19, 4, 50, 29, 46, 61, 3, 54, 4] := chW_of (by decide +kernel)
theorem W_prog_6_method_17_code_96 : chW prog_6_method_17_code 96 [21, 4, 153, 0, 18, 42, 42, 180, 0, 19, 3, 50, 29, 46, 182, 0, 200, 167, 0, 4, 3, 79, 132, 3, 1, 167, 255, 139, 177] := chW_of (by decide +kernel)
theorem W_prog_6_method_17_code_32 : chW prog_6_method_17_code 32 [61, 3, 54, 4, 21, 4, 16, 63, 162, 0, 25, 42, 180, 0, 26, 21, 4, 27, 21, 4, 16, 7, 112, 184, 0, 197, 79, 132, 4, 1, 167, 255, 230, 42, 29, 182] := chW_of (by decide +kernel)
theorem W_prog_3_method_8_code_0 : chW prog_3_method_8_code 0 [2, 60, 3, 61, 28, 42, 180, 0, 18, 162, 0, 29, 27, 2, 159, 0, 16, 42, 28, 182, 0, 33, 42, 27, 182, 0, 33, 161, 0, 5, 28, 60, 132, 2, 1, 167] := chW_of (by decide +kernel)
theorem W_prog_3_method_8_code_32 : chW prog_3_method_8_code 32 [132, 2, 1, 167, 255, 225, 27, 172] := chW_of (by decide +kernel)
theorem W_prog_11_method_7_code_0 : chW prog_11_method_7_code 0 [4, 62, 29, 7, 163, 0, 64, 3, 54, 4, 21, 4, 27, 162, 0, 49, 21, 4, 4, 96, 54, 5, 21, 5, 27, 162, 0, 31, 42, 29, 21, 4, 21, 5, 182, 0] := chW_of (by decide +kernel)
theorem W_prog_11_method_7_code_64 : chW prog_11_method_7_code 64 [1, 167, 255, 193, 8, 62, 29, 16, 6, 163, 0, 43, 3, 54, 4, 21, 4, 27, 162, 0, 28, 42, 29, 21, 4, 182, 0, 119, 153, 0, 12, 42, 28, 29, 21, 4] := chW_of (by decide +kernel)
theorem W_prog_11_method_7_code_32 : chW prog_11_method_7_code 32 [21, 5, 182, 0, 111, 153, 0, 13, 42, 28, 29, 21, 4, 21, 5, 182, 0, 115, 132, 5, 1, 167, 255, 225, 132, 4, 1, 167, 255, 207, 132, 3, 1, 167, 255, 193] := chW_of (by decide +kernel)
theorem d_11_7_62 : decode prog_11_method_7_code 62 = .ok (.iinc 3 1, 3) := D_132 W_prog_11_method_7_code_32 30 rfl rfl rfl
theorem d_11_7_56 : decode prog_11_method_7_code 56 = .ok (.iinc 4 1, 3) := D_132 W_prog_11_method_7_code_32 24 rfl rfl rfl
theorem W_prog_7_method_3_code_0 : chW prog_7_method_3_code 0 [42, 180, 0, 73, 27, 50, 77, 44, 16, 64, 182, 0, 77, 153, 0, 32, 44, 180, 0, 83, 4, 160, 0, 24, 42, 27, 182, 0, 84, 154, 0, 16, 42, 27, 3, 182] := chW_of (by decide +kernel)
theorem W_prog_7_method_10_code_0 : chW prog_7_method_10_code 0 [43, 180, 0, 52, 28, 50, 180, 0, 73, 29, 50, 58, 4, 25, 4, 180, 0, 109, 25, 4, 180, 0, 121, 97, 184, 0, 113, 54, 5, 25, 4, 3, 182, 0, 124, 54] := chW_of (by decide +kernel)
theorem W_prog_1_method_13_code_0 : chW prog_1_method_13_code 0 [42, 27, 28, 29, 182, 0, 187, 58, 5, 25, 5, 199, 0, 7, 20, 0, 191, 173, 21, 4, 170, 0, 0, 0, 0, 0, 0, 112, 0, 0, 0, 0, 0, 0, 0, 7] := chW_of (by decide +kernel)
theorem W_prog_4_method_4_code_0 : chW prog_4_method_4_code 0 [42, 43, 28, 182, 0, 91, 66, 33, 9, 148, 155, 0, 13, 42, 180, 0, 76, 17, 12, 128, 161, 0, 5, 3, 172, 3, 54, 5, 3, 54, 6, 3, 54, 7, 21, 7] := chW_of (by decide +kernel)
theorem W_prog_7_method_11_code_0 : chW prog_7_method_11_code 0 [42, 3, 181, 0, 159, 42, 3, 181, 0, 162, 42, 3, 181, 0, 165, 42, 3, 181, 0, 168, 3, 60, 27, 42, 180, 0, 36, 162, 0, 57, 42, 180, 0, 26, 5, 27] := chW_of (by decide +kernel)
theorem W_prog_7_method_11_code_64 : chW prog_7_method_11_code 64 [42, 180, 0, 23, 8, 50, 27, 46, 133, 3, 182, 0, 171, 80, 132, 1, 1, 167, 255, 197, 42, 182, 0, 175, 177] := chW_of (by decide +kernel)
theorem W_prog_10_method_6_code_0 : chW prog_10_method_6_code 0 [42, 182, 0, 90, 62, 29, 27, 161, 0, 8, 29, 28, 164, 0, 14, 42, 4, 42, 180, 0, 27, 4, 100, 182, 0, 83, 177] := chW_of (by decide +kernel)
theorem W_prog_10_method_18_code_0 : chW prog_10_method_18_code 0 [42, 182, 0, 142, 60, 42, 182, 0, 136, 61, 42, 180, 0, 27, 62, 42, 28, 133, 182, 0, 70, 42, 180, 0, 39, 154, 0, 10, 42, 180, 0, 23, 199, 0, 4, 177] := chW_of (by decide +kernel)
theorem W_prog_9_method_5_code_0 : chW prog_9_method_5_code 0 [9, 64, 3, 62, 3, 54, 4, 21, 4, 42, 180, 0, 22, 180, 0, 63, 162, 0, 85, 29, 7, 162, 0, 80, 42, 21, 4, 182, 0, 70, 54, 5, 42, 21, 4, 181] := chW_of (by decide +kernel)
theorem W_prog_9_method_14_code_0 : chW prog_9_method_14_code 0 [42, 180, 0, 26, 18, 221, 27, 16, 7, 184, 0, 120, 182, 0, 223, 182, 0, 151, 3, 62, 29, 28, 184, 0, 141, 162, 0, 27, 42, 180, 0, 26, 28, 158, 0, 8] := chW_of (by decide +kernel)
theorem W_prog_7_method_25_code_0 : chW prog_7_method_25_code 0 [43, 180, 1, 0, 4, 184, 0, 144, 133, 55, 4, 42, 180, 0, 23, 7, 50, 28, 46, 133, 20, 1, 30, 105, 22, 4, 109, 136, 54, 6, 42, 180, 0, 23, 8, 50] := chW_of (by decide +kernel)
theorem W_prog_7_method_25_code_32 : chW prog_7_method_25_code 32 [0, 23, 8, 50, 28, 46, 133, 20, 1, 30, 105, 22, 4, 109, 136, 54, 7, 21, 6, 42, 180, 0, 159, 184, 0, 144, 54, 8, 21, 7, 17, 1, 144, 96, 42, 180] := chW_of (by decide +kernel)
theorem W_prog_7_method_25_code_64 : chW prog_7_method_25_code 64 [144, 96, 42, 180, 0, 159, 29, 96, 184, 0, 99, 54, 9, 21, 8, 21, 9, 161, 0, 4, 177, 42, 180, 0, 23, 5, 50, 28, 46, 184, 1, 32, 136, 54, 10, 43] := chW_of (by decide +kernel)
theorem d_6_17_59 : decode prog_6_method_17_code 59 = .ok (.iinc 4 1, 3) := D_132 W_prog_6_method_17_code_32 27 rfl rfl rfl
theorem W_prog_6_method_17_code_64 : chW prog_6_method_17_code 64 [230, 42, 29, 182, 0, 191, 154, 0, 15, 42, 29, 182, 0, 194, 154, 0, 7, 4, 167, 0, 4, 3, 54, 4, 42, 180, 0, 19, 16, 7, 50, 29, 21, 4, 153, 0] := chW_of (by decide +kernel)
theorem W_prog_7_method_10_code_32 : chW prog_7_method_10_code 32 [182, 0, 124, 54, 6, 25, 4, 180, 0, 135, 3, 46, 4, 96, 54, 7, 21, 7, 16, 63, 162, 0, 24, 21, 7, 184, 0, 150, 43, 180, 0, 153, 21, 7, 16, 7] := chW_of (by decide +kernel)
theorem W_prog_7_method_10_code_64 : chW prog_7_method_10_code 64 [21, 7, 16, 7, 112, 184, 0, 156, 96, 167, 0, 5, 21, 6, 54, 8, 3, 54, 9, 25, 4, 180, 0, 109, 184, 0, 113, 54, 10, 21, 10, 21, 5, 162, 0, 60] := chW_of (by decide +kernel)
theorem W_prog_7_method_10_code_96 : chW prog_7_method_10_code 96 [5, 162, 0, 60, 42, 180, 0, 40, 154, 0, 53, 42, 28, 29, 21, 9, 153, 0, 8, 21, 8, 167, 0, 5, 21, 6, 25, 4, 21, 10, 21, 10, 16, 12, 96, 21] := chW_of (by decide +kernel)
theorem W_prog_7_method_10_code_128 : chW prog_7_method_10_code 128 [16, 12, 96, 21, 5, 184, 0, 99, 182, 0, 131, 21, 9, 154, 0, 7, 4, 167, 0, 4, 3, 54, 9, 132, 10, 12, 167, 255, 195, 177] := chW_of (by decide +kernel)
theorem d_1_13_20 : decode prog_1_method_13_code 20 = .ok (.tableswitch 112 0 7 #[48, 57, 66, 75, 84, 91, 98, 105], 48) := by decide +kernel
theorem W_prog_1_method_13_code_64 : chW prog_1_method_13_code 64 [0, 0, 0, 105, 25, 5, 180, 0, 193, 184, 0, 198, 173, 25, 5, 180, 0, 193, 184, 0, 201, 173, 25, 5, 180, 0, 203, 184, 0, 198, 173, 25, 5, 180, 0, 203] := chW_of (by decide +kernel)
theorem W_prog_9_method_5_code_32 : chW prog_9_method_5_code 32 [42, 21, 4, 181, 0, 91, 3, 54, 6, 21, 6, 42, 180, 0, 22, 180, 0, 63, 162, 0, 28, 42, 180, 0, 91, 21, 5, 162, 0, 19, 42, 42, 180, 0, 91, 21] := chW_of (by decide +kernel)
theorem W_prog_9_method_5_code_64 : chW prog_9_method_5_code 64 [180, 0, 91, 21, 5, 182, 0, 94, 132, 6, 1, 167, 255, 222, 31, 42, 180, 0, 98, 184, 0, 102, 64, 132, 3, 1, 42, 21, 4, 182, 0, 70, 54, 4, 167, 255] := chW_of (by decide +kernel)
theorem W_prog_7_method_25_code_96 : chW prog_7_method_25_code 96 [136, 54, 10, 43, 180, 0, 52, 42, 180, 0, 23, 3, 50, 28, 46, 50, 180, 1, 10, 54, 11, 21, 8, 21, 6, 100, 21, 10, 104, 54, 12, 21, 8, 54, 13, 21] := chW_of (by decide +kernel)
theorem W_prog_7_method_25_code_128 : chW prog_7_method_25_code 128 [8, 54, 13, 21, 13, 21, 9, 162, 0, 72, 21, 11, 21, 12, 16, 24, 124, 184, 1, 36, 54, 14, 42, 180, 0, 18, 21, 13, 42, 180, 0, 159, 100, 92, 46, 21] := chW_of (by decide +kernel)
theorem W_prog_7_method_25_code_192 : chW prog_7_method_25_code 192 [96, 79, 21, 12, 21, 10, 96, 54, 12, 132, 13, 1, 167, 255, 183, 177] := chW_of (by decide +kernel)
theorem W_prog_7_method_25_code_160 : chW prog_7_method_25_code 160 [100, 92, 46, 21, 14, 21, 13, 21, 6, 100, 21, 7, 21, 6, 100, 184, 1, 39, 104, 42, 180, 0, 23, 6, 50, 28, 46, 104, 17, 4, 0, 108, 96, 79, 21, 12] := chW_of (by decide +kernel)
theorem d_6_17_118 : decode prog_6_method_17_code 118 = .ok (.iinc 3 1, 3) := D_132 W_prog_6_method_17_code_96 22 rfl rfl rfl
theorem d_3_8_32 : decode prog_3_method_8_code 32 = .ok (.iinc 2 1, 3) := D_132 W_prog_3_method_8_code_32 0 rfl rfl rfl
theorem d_11_7_50 : decode prog_11_method_7_code 50 = .ok (.iinc 5 1, 3) := D_132 W_prog_11_method_7_code_32 18 rfl rfl rfl
theorem W_prog_11_method_7_code_96 : chW prog_11_method_7_code 96 [28, 29, 21, 4, 2, 182, 0, 115, 132, 4, 1, 167, 255, 228, 132, 3, 1, 167, 255, 213, 177] := chW_of (by decide +kernel)
theorem d_11_7_110 : decode prog_11_method_7_code 110 = .ok (.iinc 3 1, 3) := D_132 W_prog_11_method_7_code_96 14 rfl rfl rfl
theorem d_11_7_104 : decode prog_11_method_7_code 104 = .ok (.iinc 4 1, 3) := D_132 W_prog_11_method_7_code_96 8 rfl rfl rfl
theorem W_prog_7_method_3_code_32 : chW prog_7_method_3_code 32 [42, 27, 3, 182, 0, 88, 154, 0, 7, 4, 167, 0, 4, 3, 172] := chW_of (by decide +kernel)
theorem d_7_10_151 : decode prog_7_method_10_code 151 = .ok (.iinc 10 12, 3) := D_132 W_prog_7_method_10_code_128 23 rfl rfl rfl
theorem W_prog_1_method_13_code_96 : chW prog_1_method_13_code 96 [5, 180, 0, 203, 184, 0, 201, 173, 25, 5, 180, 0, 206, 133, 173, 25, 5, 180, 0, 207, 133, 173, 25, 5, 180, 0, 210, 133, 173, 25, 5, 180, 0, 213, 133, 173] := chW_of (by decide +kernel)
theorem W_prog_1_method_13_code_128 : chW prog_1_method_13_code 128 [0, 213, 133, 173, 20, 0, 191, 173] := chW_of (by decide +kernel)
theorem W_prog_4_method_4_code_32 : chW prog_4_method_4_code 32 [54, 7, 21, 7, 43, 180, 0, 95, 162, 0, 102, 43, 180, 0, 98, 21, 7, 50, 58, 8, 42, 180, 0, 43, 21, 7, 46, 54, 9, 25, 8, 21, 9, 28, 184, 0] := chW_of (by decide +kernel)
theorem W_prog_4_method_4_code_128 : chW prog_4_method_4_code 128 [43, 21, 7, 92, 46, 4, 96, 79, 132, 7, 1, 167, 255, 151, 42, 180, 0, 11, 42, 180, 0, 76, 33, 80, 42, 180, 0, 15, 42, 180, 0, 76, 16, 8, 21, 5] := chW_of (by decide +kernel)
theorem W_prog_4_method_4_code_160 : chW prog_4_method_4_code 160 [16, 8, 21, 5, 96, 6, 21, 6, 104, 96, 79, 4, 172] := chW_of (by decide +kernel)
theorem W_prog_4_method_4_code_64 : chW prog_4_method_4_code 64 [9, 28, 184, 0, 102, 153, 0, 67, 25, 8, 180, 0, 106, 21, 9, 47, 33, 148, 154, 0, 54, 25, 8, 180, 0, 111, 16, 7, 50, 21, 9, 46, 153, 0, 8, 16] := chW_of (by decide +kernel)
theorem W_prog_4_method_4_code_96 : chW prog_4_method_4_code 96 [153, 0, 8, 16, 6, 167, 0, 5, 21, 5, 54, 5, 21, 6, 25, 8, 180, 0, 111, 8, 50, 21, 9, 46, 184, 0, 115, 54, 6, 42, 180, 0, 43, 21, 7, 92] := chW_of (by decide +kernel)
theorem d_4_4_136 : decode prog_4_method_4_code 136 = .ok (.iinc 7 1, 3) := D_132 W_prog_4_method_4_code_128 8 rfl rfl rfl
theorem W_prog_7_method_11_code_32 : chW prog_7_method_11_code 32 [0, 26, 5, 27, 104, 42, 27, 42, 180, 0, 23, 7, 50, 27, 46, 133, 4, 182, 0, 171, 80, 42, 180, 0, 26, 5, 27, 104, 4, 96, 42, 27, 42, 180, 0, 23] := chW_of (by decide +kernel)
theorem d_7_11_78 : decode prog_7_method_11_code 78 = .ok (.iinc 1 1, 3) := D_132 W_prog_7_method_11_code_64 14 rfl rfl rfl
theorem W_prog_10_method_18_code_32 : chW prog_10_method_18_code 32 [199, 0, 4, 177, 42, 180, 0, 23, 29, 182, 0, 87, 54, 4, 42, 180, 0, 23, 29, 4, 96, 182, 0, 87, 54, 5, 27, 16, 88, 160, 0, 19, 28, 7, 161, 0] := chW_of (by decide +kernel)
theorem W_prog_10_method_18_code_64 : chW prog_10_method_18_code 64 [28, 7, 161, 0, 14, 42, 21, 4, 21, 5, 182, 0, 155, 167, 0, 64, 27, 16, 89, 160, 0, 20, 28, 5, 161, 0, 15, 42, 21, 4, 145, 21, 5, 182, 0, 158] := chW_of (by decide +kernel)
theorem W_prog_10_method_18_code_128 : chW prog_10_method_18_code 128 [180, 0, 23, 29, 5, 96, 182, 0, 87, 96, 182, 0, 162, 42, 27, 16, 47, 160, 0, 7, 4, 167, 0, 4, 3, 181, 0, 127, 177] := chW_of (by decide +kernel)
theorem W_prog_10_method_18_code_96 : chW prog_10_method_18_code 96 [5, 182, 0, 158, 167, 0, 41, 27, 16, 81, 160, 0, 35, 28, 6, 160, 0, 30, 42, 18, 161, 21, 4, 104, 17, 1, 0, 21, 5, 104, 96, 42, 180, 0, 23, 29] := chW_of (by decide +kernel)
theorem d_9_5_72 : decode prog_9_method_5_code 72 = .ok (.iinc 6 1, 3) := D_132 W_prog_9_method_5_code_64 8 rfl rfl rfl
theorem d_9_5_87 : decode prog_9_method_5_code 87 = .ok (.iinc 3 1, 3) := D_132 W_prog_9_method_5_code_64 23 rfl rfl rfl
theorem W_prog_9_method_5_code_96 : chW prog_9_method_5_code 96 [54, 4, 167, 255, 165, 31, 173] := chW_of (by decide +kernel)
theorem W_prog_9_method_14_code_32 : chW prog_9_method_14_code 32 [28, 158, 0, 8, 16, 35, 167, 0, 5, 16, 98, 182, 0, 151, 132, 3, 1, 167, 255, 227, 42, 180, 0, 26, 16, 48, 27, 16, 7, 108, 96, 182, 0, 151, 177] := chW_of (by decide +kernel)
theorem W_prog_9_method_14_code_64 : chW prog_9_method_14_code 64 [0, 151, 177] := chW_of (by decide +kernel)
theorem d_9_14_46 : decode prog_9_method_14_code 46 = .ok (.iinc 3 1, 3) := D_132 W_prog_9_method_14_code_32 14 rfl rfl rfl
theorem d_7_25_201 : decode prog_7_method_25_code 201 = .ok (.iinc 13 1, 3) := D_132 W_prog_7_method_25_code_192 9 rfl rfl rfl
abbrev Q_Part_setAccidentals (K : zK) (D : va_G) (ca : Nat → ClassId) (ad : Nat → Int → Nat → Nat) (L : List Nat) (r : Int) (F : zF) (B : zB) (A : Nat → Prop) : Array Value → State → Outcome → State → Prop := va_Qv (S := Unit) (fun _ => True) (fun _ => zPo D ca ad lnC K.2 L F B A) A
def f_Part_setAccidentals_117 (rec4 : Int → Int → Int → Int → zF → zB → zO) (K : zK) (l3 : Int) (l2 : Int) (l0 : Int) (l1 : Int) (s0 : Int) (s1 : Int) (s2 : Int) (F : zF) (B : zB) : zO := if 0 ≤ s0 ∧ s0 < K.2 4 then if 0 ≤ s1 ∧ s1 < 800 then rec4 (l3 + 1) l2 l0 l1 F (zup4 B 4 s0 367 s1 s2) else none else none
set_option maxHeartbeats 4000000 in
set_option maxRecDepth 100000 in
theorem b_Part_setAccidentals_117 {D : va_G} {ca : Nat → ClassId} {ad : Nat → Int → Nat → Nat} {L : List Nat} {aS vS : Nat → Nat} {A : Nat → Prop} {p : Program} {l : Launch} {e : Env} {s : State} {m : MethodId} {args : Array Value} {below : List Frame} {meth : Method} {c : Code} {K : zK} {r : Int} {F9 : zF} {B9 : zB} (X : zX D ca L aS vS A p s m args meth c prog_6_method_17_code 5 (Option.none : Option Jvm.ClassFile.FieldType) "StaveHouse$Part") {rec4 : Int → Int → Int → Int → zF → zB → zO} (hrec4 : ∀ {l3 : Int} {l2 : Int} {l0 : Int} {l1 : Int} {F : zF} {B : zB} {H : Heap} {locs : List Loc} {ls : Array Slot}, rec4 l3 l2 l0 l1 F B = some (r, F9, B9) → zH D ca ad lnC K.2 L F B A H → va_S A s.heap H locs → lv_has ls 5 [(3, .int (iI l3)), (2, .int (iI l2)), (0, .ref (ad 4 l0 0)), (1, .int (iI l1))] → W p l e ({ frames := 3, cells := 0, slots := 0, locals := 71 } : Room) s m args below meth c H locs 0 0 (MQ below (Q_Part_setAccidentals K D ca ad L r F9 B9 A) args s 0 0 A) (F0 m 4 ls [])) {l3 : Int} {l2 : Int} {l0 : Int} {l1 : Int} {s0 : Int} {s1 : Int} {s2 : Int} {F : zF} {B : zB} {H : Heap} {locs : List Loc} {ls : Array Slot} (hf : f_Part_setAccidentals_117 rec4 K l3 l2 l0 l1 s0 s1 s2 F B = some (r, F9, B9)) (hZ : zH D ca ad lnC K.2 L F B A H) (hS : va_S A s.heap H locs) (hl : lv_has ls 5 [(3, .int (iI l3)), (2, .int (iI l2)), (0, .ref (ad 4 l0 0)), (1, .int (iI l1))]) : W p l e ({ frames := 3, cells := 0, slots := 0, locals := 71 } : Room) s m args below meth c H locs 0 0 (MQ below (Q_Part_setAccidentals K D ca ad L r F9 B9 A) args s 0 0 A) (F0 m 117 ls [.int (iI s2), .int (iI s1), .ref (ad 4 s0 (367 + 1))]) := by
  obtain ⟨hx, hb, hr, hml, hown, hts, hlk, hK, hA, hL, hX⟩ := id X
  replace hf : (if 0 ≤ s0 ∧ s0 < K.2 4 then if 0 ≤ s1 ∧ s1 < 800 then rec4 (l3 + 1) l2 l0 l1 F (zup4 B 4 s0 367 s1 s2) else none else none) = some (r, F9, B9) := hf
  obtain ⟨g27, hf⟩ := gif hf
  obtain ⟨g28, hf⟩ := gif hf
  refine zast (ci := 4) (k := 367) hx hb hK rfl hZ hS g27.1 g27.2 rfl (Nat.le_of_ble_eq_true rfl) g28.1 g28.2 (D_79 W_prog_6_method_17_code_96 21 rfl rfl) (fun H29 locs29 hZ29 hS29 => ?_)
  refine lv_iinc (v := iI (l3 + 1)) (lv' := [(3, .int (iI (l3 + 1))), (2, .int (iI l2)), (0, .ref (ad 4 l0 0)), (1, .int (iI l1))]) hx hb d_6_17_118 hl (k := 0) rfl (iI_add _ 1) (by decide) rfl (fun ls hl => ?_)
  refine lv_goto (tgt := 4) hx hb (D_167 W_prog_6_method_17_code_96 25 rfl rfl rfl) (by decide) ?_
  exact hrec4 hf hZ29 hS29 (lv_sub hl [0, 1, 2, 3] rfl)

def f_Part_setAccidentals_86 (rec4 : Int → Int → Int → Int → zF → zB → zO) (K : zK) (l3 : Int) (l2 : Int) (l0 : Int) (l1 : Int) (s0 : Int) (F : zF) (B : zB) : zO := if 0 ≤ l0 ∧ l0 < K.2 4 then if r32 s0 then (if s0 = 0 then f_Part_setAccidentals_117 rec4 K l3 l2 l0 l1 l0 l3 0 F B else if 0 ≤ l3 ∧ l3 < 800 then zbind (f_Part_accidentalsOf K l0 (B 4 l0 360 l3) F B) (fun r26 F26 B26 => f_Part_setAccidentals_117 rec4 K l3 l2 l0 l1 l0 l3 r26 F26 B26) else none) else none else none
set_option maxHeartbeats 4000000 in
set_option maxRecDepth 100000 in
theorem b_Part_setAccidentals_86 {D : va_G} {ca : Nat → ClassId} {ad : Nat → Int → Nat → Nat} {L : List Nat} {aS vS : Nat → Nat} {A : Nat → Prop} {p : Program} {l : Launch} {e : Env} {s : State} {m : MethodId} {args : Array Value} {below : List Frame} {meth : Method} {c : Code} {K : zK} {r : Int} {F9 : zF} {B9 : zB} (X : zX D ca L aS vS A p s m args meth c prog_6_method_17_code 5 (Option.none : Option Jvm.ClassFile.FieldType) "StaveHouse$Part") {rec4 : Int → Int → Int → Int → zF → zB → zO} (hrec4 : ∀ {l3 : Int} {l2 : Int} {l0 : Int} {l1 : Int} {F : zF} {B : zB} {H : Heap} {locs : List Loc} {ls : Array Slot}, rec4 l3 l2 l0 l1 F B = some (r, F9, B9) → zH D ca ad lnC K.2 L F B A H → va_S A s.heap H locs → lv_has ls 5 [(3, .int (iI l3)), (2, .int (iI l2)), (0, .ref (ad 4 l0 0)), (1, .int (iI l1))] → W p l e ({ frames := 3, cells := 0, slots := 0, locals := 71 } : Room) s m args below meth c H locs 0 0 (MQ below (Q_Part_setAccidentals K D ca ad L r F9 B9 A) args s 0 0 A) (F0 m 4 ls [])) {l3 : Int} {l2 : Int} {l0 : Int} {l1 : Int} {s0 : Int} {F : zF} {B : zB} {H : Heap} {locs : List Loc} {ls : Array Slot} (hf : f_Part_setAccidentals_86 rec4 K l3 l2 l0 l1 s0 F B = some (r, F9, B9)) (hZ : zH D ca ad lnC K.2 L F B A H) (hS : va_S A s.heap H locs) (hl : lv_has ls 5 [(3, .int (iI l3)), (2, .int (iI l2)), (0, .ref (ad 4 l0 0)), (1, .int (iI l1))]) : W p l e ({ frames := 3, cells := 0, slots := 0, locals := 71 } : Room) s m args below meth c H locs 0 0 (MQ below (Q_Part_setAccidentals K D ca ad L r F9 B9 A) args s 0 0 A) (F0 m 86 ls [.int (iI s0)]) := by
  obtain ⟨hx, hb, hr, hml, hown, hts, hlk, hK, hA, hL, hX⟩ := id X
  replace hf : (if 0 ≤ l0 ∧ l0 < K.2 4 then if r32 s0 then (if s0 = 0 then f_Part_setAccidentals_117 rec4 K l3 l2 l0 l1 l0 l3 0 F B else if 0 ≤ l3 ∧ l3 < 800 then zbind (f_Part_accidentalsOf K l0 (B 4 l0 360 l3) F B) (fun r26 F26 B26 => f_Part_setAccidentals_117 rec4 K l3 l2 l0 l1 l0 l3 r26 F26 B26) else none) else none else none) = some (r, F9, B9) := hf
  refine lv_istore (lv' := [(4, .int (iI s0)), (3, .int (iI l3)), (2, .int (iI l2)), (0, .ref (ad 4 l0 0)), (1, .int (iI l1))]) hx hb (D_54 W_prog_6_method_17_code_64 22 rfl rfl) hl (by decide) rfl (fun ls hl => ?_)
  refine lv_aload_n hx hb (D_42 W_prog_6_method_17_code_64 24 rfl rfl) rfl (lv_at hl 3 rfl) ?_
  obtain ⟨g22, hf⟩ := gif hf
  refine zget (ci := 4) (C := RX4) (T := TX4) (v := .ref (ad 4 l0 (8 + 1))) (k := 8) hx hb hts inW_4 hown hK hZ g22.1 g22.2 rfl (by decide) k_4_142 rfl (D_180 W_prog_6_method_17_code_64 25 rfl rfl rfl) ?_
  refine lv_bipush (v := iI 7) hx hb (D_16 W_prog_6_method_17_code_64 28 rfl rfl rfl) (by decide) ?_
  refine zaldQ (t := 0) (ci := 4) (k := 8) hx hb hK rfl hZ g22.1 g22.2 rfl (Nat.le_of_ble_eq_true rfl) (by decide) (by decide) (D_50 W_prog_6_method_17_code_64 30 rfl rfl) ?_
  refine W.eq (g2 := F0 m 95 ls [.ref (ad 4 l0 (367 + 1))]) rfl ?_
  refine lv_iload_n hx hb (D_29 W_prog_6_method_17_code_64 31 rfl rfl) rfl (lv_at hl 1 rfl) ?_
  refine lv_iload hx hb (D_21 W_prog_6_method_17_code_96 0 rfl rfl) (lv_at hl 0 rfl) ?_
  obtain ⟨g23, hf⟩ := gif hf
  refine z0eq (tgt := 116) hx hb g23 (D_153 W_prog_6_method_17_code_96 2 rfl rfl rfl) (by decide) (fun h24 => ?_) (fun h24 => ?_)
  · replace hf := gpos hf h24
    refine lv_iconst (v := iI 0) hx hb (D_3 W_prog_6_method_17_code_96 20 rfl rfl) rfl ?_
    exact b_Part_setAccidentals_117 X hrec4 hf hZ hS (lv_sub hl [1, 2, 3, 4] rfl)
  · replace hf := gneg hf h24
    refine lv_aload_n hx hb (D_42 W_prog_6_method_17_code_96 5 rfl rfl) rfl (lv_at hl 3 rfl) ?_
    refine lv_aload_n hx hb (D_42 W_prog_6_method_17_code_96 6 rfl rfl) rfl (lv_at hl 3 rfl) ?_
    refine zget (ci := 4) (C := RX4) (T := TX4) (v := .ref (ad 4 l0 (8 + 1))) (k := 8) hx hb hts inW_4 hown hK hZ g22.1 g22.2 rfl (by decide) k_4_142 rfl (D_180 W_prog_6_method_17_code_96 7 rfl rfl rfl) ?_
    refine lv_iconst (v := iI 0) hx hb (D_3 W_prog_6_method_17_code_96 10 rfl rfl) rfl ?_
    refine zaldQ (t := 0) (ci := 4) (k := 8) hx hb hK rfl hZ g22.1 g22.2 rfl (Nat.le_of_ble_eq_true rfl) (by decide) (by decide) (D_50 W_prog_6_method_17_code_96 11 rfl rfl) ?_
    refine W.eq (g2 := F0 m 108 ls [.ref (ad 4 l0 (360 + 1)), .ref (ad 4 l0 0), .int (iI l3), .ref (ad 4 l0 (367 + 1))]) rfl ?_
    refine lv_iload_n hx hb (D_29 W_prog_6_method_17_code_96 12 rfl rfl) rfl (lv_at hl 1 rfl) ?_
    obtain ⟨g25, hf⟩ := gif hf
    refine zald (ci := 4) (k := 360) hx hb hK rfl hZ g22.1 g22.2 rfl (Nat.le_of_ble_eq_true rfl) g25.1 g25.2 (D_46 W_prog_6_method_17_code_96 13 rfl rfl) ?_
    obtain ⟨r26, F26, B26, hc26, hf⟩ := gbind hf
    refine va_calli (va_runV (As := [.int (iI (B 4 l0 360 l3))]) (rest := [.int (iI l3), .ref (ad 4 l0 (367 + 1))]) ⟨hx, hb, hml, hown, hts⟩ (c_Part_accidentalsOf (l := l) hc26) (cwV 1 hts (gdV k_5_121 k_5_123 ks_57 k_1_18 k_5_124) rfl rfl rfl (by decide +kernel) ⟨Nat.le_of_ble_eq_true rfl, Nat.le_of_ble_eq_true rfl⟩) (zPV X hZ hS (ci := 4) g22.1 g22.2 (r := (RX4, TX4, 13)) rfl [.int (iI (B 4 l0 360 l3))]) rfl rfl hl.1 rfl (lv_room (Nat.le_of_ble_eq_true rfl)) (D_182 W_prog_6_method_17_code_96 14 rfl rfl rfl) ⟨Nat.le_of_ble_eq_true rfl, Nat.le_of_ble_eq_true rfl⟩) hS (fun q _ h => zAin X hS q h) (zAin X hS) (fun p26 u26 t26 H26 locs26 ht26 hv26 hw26 hB26 hz26 hk26 hS26 => ?_)
    have hZ26 := zBack X ht26 hB26
    subst hw26
    refine lv_goto (tgt := 117) hx hb (D_167 W_prog_6_method_17_code_96 17 rfl rfl rfl) (by decide) ?_
    exact b_Part_setAccidentals_117 X hrec4 hf hZ26 hS26 (lv_sub hl [1, 2, 3, 4] rfl)

def f_Part_setAccidentals_85 (rec4 : Int → Int → Int → Int → zF → zB → zO) (K : zK) (l3 : Int) (l2 : Int) (l0 : Int) (l1 : Int) (F : zF) (B : zB) : zO := f_Part_setAccidentals_86 rec4 K l3 l2 l0 l1 0 F B
set_option maxHeartbeats 4000000 in
set_option maxRecDepth 100000 in
theorem b_Part_setAccidentals_85 {D : va_G} {ca : Nat → ClassId} {ad : Nat → Int → Nat → Nat} {L : List Nat} {aS vS : Nat → Nat} {A : Nat → Prop} {p : Program} {l : Launch} {e : Env} {s : State} {m : MethodId} {args : Array Value} {below : List Frame} {meth : Method} {c : Code} {K : zK} {r : Int} {F9 : zF} {B9 : zB} (X : zX D ca L aS vS A p s m args meth c prog_6_method_17_code 5 (Option.none : Option Jvm.ClassFile.FieldType) "StaveHouse$Part") {rec4 : Int → Int → Int → Int → zF → zB → zO} (hrec4 : ∀ {l3 : Int} {l2 : Int} {l0 : Int} {l1 : Int} {F : zF} {B : zB} {H : Heap} {locs : List Loc} {ls : Array Slot}, rec4 l3 l2 l0 l1 F B = some (r, F9, B9) → zH D ca ad lnC K.2 L F B A H → va_S A s.heap H locs → lv_has ls 5 [(3, .int (iI l3)), (2, .int (iI l2)), (0, .ref (ad 4 l0 0)), (1, .int (iI l1))] → W p l e ({ frames := 3, cells := 0, slots := 0, locals := 71 } : Room) s m args below meth c H locs 0 0 (MQ below (Q_Part_setAccidentals K D ca ad L r F9 B9 A) args s 0 0 A) (F0 m 4 ls [])) {l3 : Int} {l2 : Int} {l0 : Int} {l1 : Int} {F : zF} {B : zB} {H : Heap} {locs : List Loc} {ls : Array Slot} (hf : f_Part_setAccidentals_85 rec4 K l3 l2 l0 l1 F B = some (r, F9, B9)) (hZ : zH D ca ad lnC K.2 L F B A H) (hS : va_S A s.heap H locs) (hl : lv_has ls 5 [(3, .int (iI l3)), (2, .int (iI l2)), (0, .ref (ad 4 l0 0)), (1, .int (iI l1))]) : W p l e ({ frames := 3, cells := 0, slots := 0, locals := 71 } : Room) s m args below meth c H locs 0 0 (MQ below (Q_Part_setAccidentals K D ca ad L r F9 B9 A) args s 0 0 A) (F0 m 85 ls []) := by
  obtain ⟨hx, hb, hr, hml, hown, hts, hlk, hK, hA, hL, hX⟩ := id X
  replace hf : (f_Part_setAccidentals_86 rec4 K l3 l2 l0 l1 0 F B) = some (r, F9, B9) := hf
  refine lv_iconst (v := iI 0) hx hb (D_3 W_prog_6_method_17_code_64 21 rfl rfl) rfl ?_
  exact b_Part_setAccidentals_86 X hrec4 hf hZ hS (lv_sub hl [0, 1, 2, 3] rfl)

def f_Part_setAccidentals_65 (rec4 : Int → Int → Int → Int → zF → zB → zO) (K : zK) (l3 : Int) (l2 : Int) (l0 : Int) (l1 : Int) (F : zF) (B : zB) : zO := if 0 ≤ l0 ∧ l0 < K.2 4 then zbind (f_Part_isRestNote K l0 l3 F B) (fun r16 F16 B16 => if r32 r16 then (if r16 = 0 then zbind (f_Part_continues K l0 l3 F16 B16) (fun r19 F19 B19 => if r32 r19 then (if r19 = 0 then f_Part_setAccidentals_86 rec4 K l3 l2 l0 l1 1 F19 B19 else f_Part_setAccidentals_85 rec4 K l3 l2 l0 l1 F19 B19) else none) else f_Part_setAccidentals_85 rec4 K l3 l2 l0 l1 F16 B16) else none) else none
set_option maxHeartbeats 4000000 in
set_option maxRecDepth 100000 in
theorem b_Part_setAccidentals_65 {D : va_G} {ca : Nat → ClassId} {ad : Nat → Int → Nat → Nat} {L : List Nat} {aS vS : Nat → Nat} {A : Nat → Prop} {p : Program} {l : Launch} {e : Env} {s : State} {m : MethodId} {args : Array Value} {below : List Frame} {meth : Method} {c : Code} {K : zK} {r : Int} {F9 : zF} {B9 : zB} (X : zX D ca L aS vS A p s m args meth c prog_6_method_17_code 5 (Option.none : Option Jvm.ClassFile.FieldType) "StaveHouse$Part") {rec4 : Int → Int → Int → Int → zF → zB → zO} (hrec4 : ∀ {l3 : Int} {l2 : Int} {l0 : Int} {l1 : Int} {F : zF} {B : zB} {H : Heap} {locs : List Loc} {ls : Array Slot}, rec4 l3 l2 l0 l1 F B = some (r, F9, B9) → zH D ca ad lnC K.2 L F B A H → va_S A s.heap H locs → lv_has ls 5 [(3, .int (iI l3)), (2, .int (iI l2)), (0, .ref (ad 4 l0 0)), (1, .int (iI l1))] → W p l e ({ frames := 3, cells := 0, slots := 0, locals := 71 } : Room) s m args below meth c H locs 0 0 (MQ below (Q_Part_setAccidentals K D ca ad L r F9 B9 A) args s 0 0 A) (F0 m 4 ls [])) {l3 : Int} {l2 : Int} {l0 : Int} {l1 : Int} {F : zF} {B : zB} {H : Heap} {locs : List Loc} {ls : Array Slot} (hf : f_Part_setAccidentals_65 rec4 K l3 l2 l0 l1 F B = some (r, F9, B9)) (hZ : zH D ca ad lnC K.2 L F B A H) (hS : va_S A s.heap H locs) (hl : lv_has ls 5 [(3, .int (iI l3)), (2, .int (iI l2)), (0, .ref (ad 4 l0 0)), (1, .int (iI l1))]) : W p l e ({ frames := 3, cells := 0, slots := 0, locals := 71 } : Room) s m args below meth c H locs 0 0 (MQ below (Q_Part_setAccidentals K D ca ad L r F9 B9 A) args s 0 0 A) (F0 m 65 ls []) := by
  obtain ⟨hx, hb, hr, hml, hown, hts, hlk, hK, hA, hL, hX⟩ := id X
  replace hf : (if 0 ≤ l0 ∧ l0 < K.2 4 then zbind (f_Part_isRestNote K l0 l3 F B) (fun r16 F16 B16 => if r32 r16 then (if r16 = 0 then zbind (f_Part_continues K l0 l3 F16 B16) (fun r19 F19 B19 => if r32 r19 then (if r19 = 0 then f_Part_setAccidentals_86 rec4 K l3 l2 l0 l1 1 F19 B19 else f_Part_setAccidentals_85 rec4 K l3 l2 l0 l1 F19 B19) else none) else f_Part_setAccidentals_85 rec4 K l3 l2 l0 l1 F16 B16) else none) else none) = some (r, F9, B9) := hf
  refine lv_aload_n hx hb (D_42 W_prog_6_method_17_code_64 1 rfl rfl) rfl (lv_at hl 2 rfl) ?_
  refine lv_iload_n hx hb (D_29 W_prog_6_method_17_code_64 2 rfl rfl) rfl (lv_at hl 0 rfl) ?_
  obtain ⟨g15, hf⟩ := gif hf
  obtain ⟨r16, F16, B16, hc16, hf⟩ := gbind hf
  refine va_calli (va_runV (As := [.int (iI l3)]) (rest := []) ⟨hx, hb, hml, hown, hts⟩ (c_Part_isRestNote (l := l) hc16) (cwV 1 hts (gdV k_5_104 k_5_106 ks_54 k_1_18 k_5_107) rfl rfl rfl (by decide +kernel) ⟨Nat.le_of_ble_eq_true rfl, Nat.le_of_ble_eq_true rfl⟩) (zPV X hZ hS (ci := 4) g15.1 g15.2 (r := (RX4, TX4, 13)) rfl [.int (iI l3)]) rfl rfl hl.1 rfl (lv_room (Nat.le_of_ble_eq_true rfl)) (D_182 W_prog_6_method_17_code_64 3 rfl rfl rfl) ⟨Nat.le_of_ble_eq_true rfl, Nat.le_of_ble_eq_true rfl⟩) hS (fun q _ h => zAin X hS q h) (zAin X hS) (fun p16 u16 t16 H16 locs16 ht16 hv16 hw16 hB16 hz16 hk16 hS16 => ?_)
  have hZ16 := zBack X ht16 hB16
  subst hw16
  obtain ⟨g17, hf⟩ := gif hf
  refine z0ne (tgt := 85) hx hb g17 (D_154 W_prog_6_method_17_code_64 6 rfl rfl rfl) (by decide) (fun h18 => ?_) (fun h18 => ?_)
  · replace hf := gneg hf h18
    exact b_Part_setAccidentals_85 X hrec4 hf hZ16 hS16 (lv_sub hl [0, 1, 2, 3] rfl)
  · replace hf := gpos hf h18
    refine lv_aload_n hx hb (D_42 W_prog_6_method_17_code_64 9 rfl rfl) rfl (lv_at hl 2 rfl) ?_
    refine lv_iload_n hx hb (D_29 W_prog_6_method_17_code_64 10 rfl rfl) rfl (lv_at hl 0 rfl) ?_
    obtain ⟨r19, F19, B19, hc19, hf⟩ := gbind hf
    refine va_calli (va_runV (As := [.int (iI l3)]) (rest := []) ⟨hx, hb, hml, hown, hts⟩ (c_Part_continues (l := l) hc19) (cwV 1 hts (gdV k_5_108 k_5_110 ks_55 k_1_18 k_5_111) rfl rfl rfl (by decide +kernel) ⟨Nat.le_of_ble_eq_true rfl, Nat.le_of_ble_eq_true rfl⟩) (zPV X hZ16 hS16 (ci := 4) g15.1 g15.2 (r := (RX4, TX4, 13)) rfl [.int (iI l3)]) rfl rfl hl.1 rfl (lv_room (Nat.le_of_ble_eq_true rfl)) (D_182 W_prog_6_method_17_code_64 11 rfl rfl rfl) ⟨Nat.le_of_ble_eq_true rfl, Nat.le_of_ble_eq_true rfl⟩) hS16 (fun q _ h => zAin X hS16 q h) (zAin X hS16) (fun p19 u19 t19 H19 locs19 ht19 hv19 hw19 hB19 hz19 hk19 hS19 => ?_)
    have hZ19 := zBack X ht19 hB19
    subst hw19
    obtain ⟨g20, hf⟩ := gif hf
    refine z0ne (tgt := 85) hx hb g20 (D_154 W_prog_6_method_17_code_64 14 rfl rfl rfl) (by decide) (fun h21 => ?_) (fun h21 => ?_)
    · replace hf := gneg hf h21
      exact b_Part_setAccidentals_85 X hrec4 hf hZ19 hS19 (lv_sub hl [0, 1, 2, 3] rfl)
    · replace hf := gpos hf h21
      refine lv_iconst (v := iI 1) hx hb (D_4 W_prog_6_method_17_code_64 17 rfl rfl) rfl ?_
      refine lv_goto (tgt := 86) hx hb (D_167 W_prog_6_method_17_code_64 18 rfl rfl rfl) (by decide) ?_
      exact b_Part_setAccidentals_86 X hrec4 hf hZ19 hS19 (lv_sub hl [0, 1, 2, 3] rfl)

def f_Part_setAccidentals_36 (rec4 : Int → Int → Int → Int → zF → zB → zO) (K : zK) : Nat → Int → Int → Int → Int → Int → zF → zB → zO
  | 0, _, _, _, _, _, _, _ => none
  | n + 1, l4, l2, l3, l0, l1, F, B => if r32 l4 then (if 63 ≤ l4 then f_Part_setAccidentals_65 rec4 K l3 l2 l0 l1 F B else if 0 ≤ l0 ∧ l0 < K.2 4 then zbind (f_S_keyAlteration K l1 (zrm l4 7) F B) (fun r12 F12 B12 => if 0 ≤ l4 ∧ l4 < 63 then f_Part_setAccidentals_36 rec4 K n (l4 + 1) l2 l3 l0 l1 F12 (zup4 B12 4 l0 12 l4 r12) else none) else none) else none
set_option maxHeartbeats 4000000 in
set_option maxRecDepth 100000 in
theorem b_Part_setAccidentals_36 {D : va_G} {ca : Nat → ClassId} {ad : Nat → Int → Nat → Nat} {L : List Nat} {aS vS : Nat → Nat} {A : Nat → Prop} {p : Program} {l : Launch} {e : Env} {s : State} {m : MethodId} {args : Array Value} {below : List Frame} {meth : Method} {c : Code} {K : zK} {r : Int} {F9 : zF} {B9 : zB} (X : zX D ca L aS vS A p s m args meth c prog_6_method_17_code 5 (Option.none : Option Jvm.ClassFile.FieldType) "StaveHouse$Part") {rec4 : Int → Int → Int → Int → zF → zB → zO} (hrec4 : ∀ {l3 : Int} {l2 : Int} {l0 : Int} {l1 : Int} {F : zF} {B : zB} {H : Heap} {locs : List Loc} {ls : Array Slot}, rec4 l3 l2 l0 l1 F B = some (r, F9, B9) → zH D ca ad lnC K.2 L F B A H → va_S A s.heap H locs → lv_has ls 5 [(3, .int (iI l3)), (2, .int (iI l2)), (0, .ref (ad 4 l0 0)), (1, .int (iI l1))] → W p l e ({ frames := 3, cells := 0, slots := 0, locals := 71 } : Room) s m args below meth c H locs 0 0 (MQ below (Q_Part_setAccidentals K D ca ad L r F9 B9 A) args s 0 0 A) (F0 m 4 ls [])) : ∀ {n : Nat} {l4 : Int} {l2 : Int} {l3 : Int} {l0 : Int} {l1 : Int} {F : zF} {B : zB} {H : Heap} {locs : List Loc} {ls : Array Slot}, f_Part_setAccidentals_36 rec4 K n l4 l2 l3 l0 l1 F B = some (r, F9, B9) → zH D ca ad lnC K.2 L F B A H → va_S A s.heap H locs → lv_has ls 5 [(4, .int (iI l4)), (2, .int (iI l2)), (3, .int (iI l3)), (0, .ref (ad 4 l0 0)), (1, .int (iI l1))] → W p l e ({ frames := 3, cells := 0, slots := 0, locals := 71 } : Room) s m args below meth c H locs 0 0 (MQ below (Q_Part_setAccidentals K D ca ad L r F9 B9 A) args s 0 0 A) (F0 m 36 ls []) := by
  obtain ⟨hx, hb, hr, hml, hown, hts, hlk, hK, hA, hL, hX⟩ := id X
  intro n
  induction n with
  | zero =>
    intros
    rename_i hf _ _ _
    cases hf
  | succ n ih =>
    intro l4 l2 l3 l0 l1 F B H locs ls hf hZ hS hl
    replace hf : (if r32 l4 then (if 63 ≤ l4 then f_Part_setAccidentals_65 rec4 K l3 l2 l0 l1 F B else if 0 ≤ l0 ∧ l0 < K.2 4 then zbind (f_S_keyAlteration K l1 (zrm l4 7) F B) (fun r12 F12 B12 => if 0 ≤ l4 ∧ l4 < 63 then f_Part_setAccidentals_36 rec4 K n (l4 + 1) l2 l3 l0 l1 F12 (zup4 B12 4 l0 12 l4 r12) else none) else none) else none) = some (r, F9, B9) := hf
    refine lv_iload hx hb (D_21 W_prog_6_method_17_code_32 4 rfl rfl) (lv_at hl 0 rfl) ?_
    refine lv_bipush (v := iI 63) hx hb (D_16 W_prog_6_method_17_code_32 6 rfl rfl rfl) (by decide) ?_
    obtain ⟨g9, hf⟩ := gif hf
    refine zge (tgt := 65) hx hb g9 (by decide) (D_162 W_prog_6_method_17_code_32 8 rfl rfl rfl) (by decide) (fun h10 => ?_) (fun h10 => ?_)
    · replace hf := gpos hf h10
      exact b_Part_setAccidentals_65 X hrec4 hf hZ hS (lv_sub hl [2, 1, 3, 4] rfl)
    · replace hf := gneg hf h10
      refine lv_aload_n hx hb (D_42 W_prog_6_method_17_code_32 11 rfl rfl) rfl (lv_at hl 3 rfl) ?_
      obtain ⟨g11, hf⟩ := gif hf
      refine zget (ci := 4) (C := RX4) (T := TX4) (v := .ref (ad 4 l0 (12 + 1))) (k := 12) hx hb hts inW_4 hown hK hZ g11.1 g11.2 rfl (by decide) k_4_152 rfl (D_180 W_prog_6_method_17_code_32 12 rfl rfl rfl) ?_
      refine lv_iload hx hb (D_21 W_prog_6_method_17_code_32 15 rfl rfl) (lv_at hl 0 rfl) ?_
      refine lv_iload_n hx hb (D_27 W_prog_6_method_17_code_32 17 rfl rfl) rfl (lv_at hl 4 rfl) ?_
      refine lv_iload hx hb (D_21 W_prog_6_method_17_code_32 18 rfl rfl) (lv_at hl 0 rfl) ?_
      refine lv_bipush (v := iI 7) hx hb (D_16 W_prog_6_method_17_code_32 20 rfl rfl rfl) (by decide) ?_
      refine zrm_r hx hb (by decide) (D_112 W_prog_6_method_17_code_32 22 rfl rfl) ?_
      obtain ⟨r12, F12, B12, hc12, hf⟩ := gbind hf
      refine va_calli (va_runSN (As := [.int (iI l1), .int (iI (zrm l4 7))]) (rest := [.int (iI l4), .ref (ad 4 l0 (12 + 1))]) ⟨hx, hb, hml, hown, hts⟩ (c_S_keyAlteration (l := l) hc12) ⟨va_cnB 2 hts (gdC k_5_118) rfl rfl rfl (hX.1 _ (List.mem_of_getElem? (i := 17) rfl) :) (hts _ k_1_1) (by decide +kernel) ⟨Nat.le_of_ble_eq_true rfl, Nat.le_of_ble_eq_true rfl⟩, hts _ k_5_117, trivial⟩ (zPS X hZ hS [.int (iI l1), .int (iI (zrm l4 7))]) rfl rfl hl.1 rfl (lv_room (Nat.le_of_ble_eq_true rfl)) (D_184 W_prog_6_method_17_code_32 23 rfl rfl rfl) ⟨Nat.le_of_ble_eq_true rfl, Nat.le_of_ble_eq_true rfl⟩) hS (fun q _ h => zAin X hS q h) (zAin X hS) (fun p12 u12 t12 H12 locs12 ht12 hv12 hw12 hB12 hz12 hk12 hS12 => ?_)
      have hZ12 := zBack X ht12 hB12
      subst hw12
      obtain ⟨g13, hf⟩ := gif hf
      refine zast (ci := 4) (k := 12) hx hb hK rfl hZ12 hS12 g11.1 g11.2 rfl (Nat.le_of_ble_eq_true rfl) g13.1 g13.2 (D_79 W_prog_6_method_17_code_32 26 rfl rfl) (fun H14 locs14 hZ14 hS14 => ?_)
      refine lv_iinc (v := iI (l4 + 1)) (lv' := [(4, .int (iI (l4 + 1))), (2, .int (iI l2)), (3, .int (iI l3)), (0, .ref (ad 4 l0 0)), (1, .int (iI l1))]) hx hb d_6_17_59 hl (k := 0) rfl (iI_add _ 1) (by decide) rfl (fun ls hl => ?_)
      refine lv_goto (tgt := 36) hx hb (D_167 W_prog_6_method_17_code_32 30 rfl rfl rfl) (by decide) ?_
      exact ih hf hZ14 hS14 (lv_sub hl [0, 1, 2, 3, 4] rfl)

def f_Part_setAccidentals_4 (K : zK) : Nat → Int → Int → Int → Int → zF → zB → zO
  | 0, _, _, _, _, _, _ => none
  | n + 1, l3, l2, l0, l1, F, B => if 0 ≤ l0 ∧ l0 < K.2 4 then if r32 l3 then if r32 (F 4 l0 10) then (if (F 4 l0 10) ≤ l3 then some (0, F, B) else if 0 ≤ l3 ∧ l3 < 800 then if r32 (B 4 l0 361 l3) then if r32 l2 then (if (B 4 l0 361 l3) = l2 then f_Part_setAccidentals_65 (f_Part_setAccidentals_4 K n) K l3 l2 l0 l1 F B else f_Part_setAccidentals_36 (f_Part_setAccidentals_4 K n) K K.1 0 (B 4 l0 361 l3) l3 l0 l1 F B) else none else none else none) else none else none else none
set_option maxHeartbeats 4000000 in
set_option maxRecDepth 100000 in
theorem b_Part_setAccidentals_4 {D : va_G} {ca : Nat → ClassId} {ad : Nat → Int → Nat → Nat} {L : List Nat} {aS vS : Nat → Nat} {A : Nat → Prop} {p : Program} {l : Launch} {e : Env} {s : State} {m : MethodId} {args : Array Value} {below : List Frame} {meth : Method} {c : Code} {K : zK} {r : Int} {F9 : zF} {B9 : zB} (X : zX D ca L aS vS A p s m args meth c prog_6_method_17_code 5 (Option.none : Option Jvm.ClassFile.FieldType) "StaveHouse$Part") : ∀ {n : Nat} {l3 : Int} {l2 : Int} {l0 : Int} {l1 : Int} {F : zF} {B : zB} {H : Heap} {locs : List Loc} {ls : Array Slot}, f_Part_setAccidentals_4 K n l3 l2 l0 l1 F B = some (r, F9, B9) → zH D ca ad lnC K.2 L F B A H → va_S A s.heap H locs → lv_has ls 5 [(3, .int (iI l3)), (2, .int (iI l2)), (0, .ref (ad 4 l0 0)), (1, .int (iI l1))] → W p l e ({ frames := 3, cells := 0, slots := 0, locals := 71 } : Room) s m args below meth c H locs 0 0 (MQ below (Q_Part_setAccidentals K D ca ad L r F9 B9 A) args s 0 0 A) (F0 m 4 ls []) := by
  obtain ⟨hx, hb, hr, hml, hown, hts, hlk, hK, hA, hL, hX⟩ := id X
  intro n
  induction n with
  | zero =>
    intros
    rename_i hf _ _ _
    cases hf
  | succ n ih =>
    intro l3 l2 l0 l1 F B H locs ls hf hZ hS hl
    replace hf : (if 0 ≤ l0 ∧ l0 < K.2 4 then if r32 l3 then if r32 (F 4 l0 10) then (if (F 4 l0 10) ≤ l3 then some (0, F, B) else if 0 ≤ l3 ∧ l3 < 800 then if r32 (B 4 l0 361 l3) then if r32 l2 then (if (B 4 l0 361 l3) = l2 then f_Part_setAccidentals_65 (f_Part_setAccidentals_4 K n) K l3 l2 l0 l1 F B else f_Part_setAccidentals_36 (f_Part_setAccidentals_4 K n) K K.1 0 (B 4 l0 361 l3) l3 l0 l1 F B) else none else none else none) else none else none else none) = some (r, F9, B9) := hf
    refine lv_iload_n hx hb (D_29 W_prog_6_method_17_code_0 4 rfl rfl) rfl (lv_at hl 0 rfl) ?_
    refine lv_aload_n hx hb (D_42 W_prog_6_method_17_code_0 5 rfl rfl) rfl (lv_at hl 2 rfl) ?_
    obtain ⟨g1, hf⟩ := gif hf
    refine zget (ci := 4) (C := RX4) (T := TX4) (v := .int (iI (F 4 l0 10))) (k := 10) hx hb hts inW_4 hown hK hZ g1.1 g1.2 rfl (by decide) k_4_148 rfl (D_180 W_prog_6_method_17_code_0 6 rfl rfl rfl) ?_
    obtain ⟨g2, hf⟩ := gif hf
    obtain ⟨g3, hf⟩ := gif hf
    refine zge (tgt := 124) hx hb g2 g3 (D_162 W_prog_6_method_17_code_0 9 rfl rfl rfl) (by decide) (fun h4 => ?_) (fun h4 => ?_)
    · replace hf := gpos hf h4
      cases hf
      exact W.vret hx hb hr (fun t ht hW => ⟨⟨(), rfl, trivial, by rw [ht]; exact hZ, va_K.moved hW.alike hK⟩, hS.F ht⟩) hS.2.2 (D_177 W_prog_6_method_17_code_96 28 rfl rfl) hlk
    · replace hf := gneg hf h4
      refine lv_aload_n hx hb (D_42 W_prog_6_method_17_code_0 12 rfl rfl) rfl (lv_at hl 2 rfl) ?_
      refine zget (ci := 4) (C := RX4) (T := TX4) (v := .ref (ad 4 l0 (8 + 1))) (k := 8) hx hb hts inW_4 hown hK hZ g1.1 g1.2 rfl (by decide) k_4_142 rfl (D_180 W_prog_6_method_17_code_0 13 rfl rfl rfl) ?_
      refine lv_iconst (v := iI 1) hx hb (D_4 W_prog_6_method_17_code_0 16 rfl rfl) rfl ?_
      refine zaldQ (t := 0) (ci := 4) (k := 8) hx hb hK rfl hZ g1.1 g1.2 rfl (Nat.le_of_ble_eq_true rfl) (by decide) (by decide) (D_50 W_prog_6_method_17_code_0 17 rfl rfl) ?_
      refine W.eq (g2 := F0 m 18 ls [.ref (ad 4 l0 (361 + 1))]) rfl ?_
      refine lv_iload_n hx hb (D_29 W_prog_6_method_17_code_0 18 rfl rfl) rfl (lv_at hl 0 rfl) ?_
      obtain ⟨g5, hf⟩ := gif hf
      refine zald (ci := 4) (k := 361) hx hb hK rfl hZ g1.1 g1.2 rfl (Nat.le_of_ble_eq_true rfl) g5.1 g5.2 (D_46 W_prog_6_method_17_code_0 19 rfl rfl) ?_
      refine lv_iload_n hx hb (D_28 W_prog_6_method_17_code_0 20 rfl rfl) rfl (lv_at hl 1 rfl) ?_
      obtain ⟨g6, hf⟩ := gif hf
      obtain ⟨g7, hf⟩ := gif hf
      refine zeq (tgt := 65) hx hb g6 g7 (D_159 W_prog_6_method_17_code_0 21 rfl rfl rfl) (by decide) (fun h8 => ?_) (fun h8 => ?_)
      · replace hf := gpos hf h8
        exact b_Part_setAccidentals_65 X ih hf hZ hS (lv_sub hl [0, 1, 2, 3] rfl)
      · replace hf := gneg hf h8
        refine lv_aload_n hx hb (D_42 W_prog_6_method_17_code_0 24 rfl rfl) rfl (lv_at hl 2 rfl) ?_
        refine zget (ci := 4) (C := RX4) (T := TX4) (v := .ref (ad 4 l0 (8 + 1))) (k := 8) hx hb hts inW_4 hown hK hZ g1.1 g1.2 rfl (by decide) k_4_142 rfl (D_180 W_prog_6_method_17_code_0 25 rfl rfl rfl) ?_
        refine lv_iconst (v := iI 1) hx hb (D_4 W_prog_6_method_17_code_0 28 rfl rfl) rfl ?_
        refine zaldQ (t := 0) (ci := 4) (k := 8) hx hb hK rfl hZ g1.1 g1.2 rfl (Nat.le_of_ble_eq_true rfl) (by decide) (by decide) (D_50 W_prog_6_method_17_code_0 29 rfl rfl) ?_
        refine W.eq (g2 := F0 m 30 ls [.ref (ad 4 l0 (361 + 1))]) rfl ?_
        refine lv_iload_n hx hb (D_29 W_prog_6_method_17_code_0 30 rfl rfl) rfl (lv_at hl 0 rfl) ?_
        refine zald (ci := 4) (k := 361) hx hb hK rfl hZ g1.1 g1.2 rfl (Nat.le_of_ble_eq_true rfl) g5.1 g5.2 (D_46 W_prog_6_method_17_code_0 31 rfl rfl) ?_
        refine lv_istore_n (lv' := [(2, .int (iI (B 4 l0 361 l3))), (3, .int (iI l3)), (0, .ref (ad 4 l0 0)), (1, .int (iI l1))]) hx hb (D_61 W_prog_6_method_17_code_32 0 rfl rfl) rfl hl (by decide) rfl (fun ls hl => ?_)
        refine lv_iconst (v := iI 0) hx hb (D_3 W_prog_6_method_17_code_32 1 rfl rfl) rfl ?_
        refine lv_istore (lv' := [(4, .int (iI 0)), (2, .int (iI (B 4 l0 361 l3))), (3, .int (iI l3)), (0, .ref (ad 4 l0 0)), (1, .int (iI l1))]) hx hb (D_54 W_prog_6_method_17_code_32 2 rfl rfl) hl (by decide) rfl (fun ls hl => ?_)
        exact b_Part_setAccidentals_36 X ih hf hZ hS (lv_sub hl [0, 1, 2, 3, 4] rfl)

def f_Part_setAccidentals (K : zK) (l0 : Int) (l1 : Int) (F : zF) (B : zB) : zO := f_Part_setAccidentals_4 K K.1 0 (-1) l0 l1 F B
set_option maxHeartbeats 4000000 in
set_option maxRecDepth 100000 in
theorem c_Part_setAccidentals {l : Launch} {D : va_G} {ca : Nat → ClassId} {ad : Nat → Int → Nat → Nat} {L : List Nat} {aS vS : Nat → Nat} {sz : Nat} {K : zK}  {l0 : Int} {l1 : Int} {F F9 : zF} {B B9 : zB} {r : Int} (hf : f_Part_setAccidentals K l0 l1 F B = some (r, F9, B9)) : Met l ({ cls := "StaveHouse$Part", name := "setAccidentals", desc := "(I)V" } : Jvm.MethodName) (Cond.code ({ cls := "StaveHouse$Part", name := "setAccidentals", desc := "(I)V" } : Jvm.MethodName) prog_6_method_17_code 5 (Option.none : Option Jvm.ClassFile.FieldType) :: wAll) ({ frames := 3, cells := 0, slots := 0, locals := 71 } : Room) (va_Pc [.ref (ad 4 l0 0), .int (iI l1)] (zPre D ca ad lnC K.2 L aS vS F B sz)) (Q_Part_setAccidentals K D ca ad L r F9 B9 (zA L sz)) 0 0 (zA L sz) := by
  refine zMet (Qc := Q_Part_setAccidentals K D ca ad L r F9 B9) (lv := [(0, .ref (ad 4 l0 0)), (1, .int (iI l1))]) (by decide) (Nat.le_of_ble_eq_true rfl) rfl (fun A p e s m below meth c ls X hZ hS hl => ?_)
  obtain ⟨hx, hb, hr, hml, hown, hts, hlk, hK, hA, hL, hX⟩ := id X
  replace hf : (f_Part_setAccidentals_4 K K.1 0 (-1) l0 l1 F B) = some (r, F9, B9) := hf
  refine lv_iconst (v := iI (-1)) hx hb (D_2 W_prog_6_method_17_code_0 0 rfl rfl) rfl ?_
  refine lv_istore_n (lv' := [(2, .int (iI (-1))), (0, .ref (ad 4 l0 0)), (1, .int (iI l1))]) hx hb (D_61 W_prog_6_method_17_code_0 1 rfl rfl) rfl hl (by decide) rfl (fun ls hl => ?_)
  refine lv_iconst (v := iI 0) hx hb (D_3 W_prog_6_method_17_code_0 2 rfl rfl) rfl ?_
  refine lv_istore_n (lv' := [(3, .int (iI 0)), (2, .int (iI (-1))), (0, .ref (ad 4 l0 0)), (1, .int (iI l1))]) hx hb (D_62 W_prog_6_method_17_code_0 3 rfl rfl) rfl hl (by decide) rfl (fun ls hl => ?_)
  exact b_Part_setAccidentals_4 X hf hZ hS (lv_sub hl [0, 1, 2, 3] rfl)

abbrev Q_Event_top (K : zK) (D : va_G) (ca : Nat → ClassId) (ad : Nat → Int → Nat → Nat) (L : List Nat) (r : Int) (F : zF) (B : zB) (A : Nat → Prop) : Array Value → State → Outcome → State → Prop := va_Qi (S := Unit) (fun p _ => p = iI r) (fun _ => zPo D ca ad lnC K.2 L F B A) A
def f_Event_top_32 (rec4 : Int → Int → Int → zF → zB → zO) (K : zK) (l2 : Int) (l1 : Int) (l0 : Int) (F : zF) (B : zB) : zO := rec4 (l2 + 1) l1 l0 F B
set_option maxHeartbeats 4000000 in
set_option maxRecDepth 100000 in
theorem b_Event_top_32 {D : va_G} {ca : Nat → ClassId} {ad : Nat → Int → Nat → Nat} {L : List Nat} {aS vS : Nat → Nat} {A : Nat → Prop} {p : Program} {l : Launch} {e : Env} {s : State} {m : MethodId} {args : Array Value} {below : List Frame} {meth : Method} {c : Code} {K : zK} {r : Int} {F9 : zF} {B9 : zB} (X : zX D ca L aS vS A p s m args meth c prog_3_method_8_code 3 (Option.some Jvm.ClassFile.FieldType.int) "StaveHouse$Event") {rec4 : Int → Int → Int → zF → zB → zO} (hrec4 : ∀ {l2 : Int} {l1 : Int} {l0 : Int} {F : zF} {B : zB} {H : Heap} {locs : List Loc} {ls : Array Slot}, rec4 l2 l1 l0 F B = some (r, F9, B9) → zH D ca ad lnC K.2 L F B A H → va_S A s.heap H locs → lv_has ls 3 [(2, .int (iI l2)), (1, .int (iI l1)), (0, .ref (ad 1 l0 0))] → W p l e ({ frames := 3, cells := 0, slots := 0, locals := 63 } : Room) s m args below meth c H locs 0 0 (MQ below (Q_Event_top K D ca ad L r F9 B9 A) args s 0 0 A) (F0 m 4 ls [])) {l2 : Int} {l1 : Int} {l0 : Int} {F : zF} {B : zB} {H : Heap} {locs : List Loc} {ls : Array Slot} (hf : f_Event_top_32 rec4 K l2 l1 l0 F B = some (r, F9, B9)) (hZ : zH D ca ad lnC K.2 L F B A H) (hS : va_S A s.heap H locs) (hl : lv_has ls 3 [(2, .int (iI l2)), (1, .int (iI l1)), (0, .ref (ad 1 l0 0))]) : W p l e ({ frames := 3, cells := 0, slots := 0, locals := 63 } : Room) s m args below meth c H locs 0 0 (MQ below (Q_Event_top K D ca ad L r F9 B9 A) args s 0 0 A) (F0 m 32 ls []) := by
  obtain ⟨hx, hb, hr, hml, hown, hts, hlk, hK, hA, hL, hX⟩ := id X
  replace hf : (rec4 (l2 + 1) l1 l0 F B) = some (r, F9, B9) := hf
  refine lv_iinc (v := iI (l2 + 1)) (lv' := [(2, .int (iI (l2 + 1))), (1, .int (iI l1)), (0, .ref (ad 1 l0 0))]) hx hb d_3_8_32 hl (k := 0) rfl (iI_add _ 1) (by decide) rfl (fun ls hl => ?_)
  refine lv_goto (tgt := 4) hx hb (D_167 W_prog_3_method_8_code_32 3 rfl rfl rfl) (by decide) ?_
  exact hrec4 hf hZ hS (lv_sub hl [0, 1, 2] rfl)

def f_Event_top_30 (rec4 : Int → Int → Int → zF → zB → zO) (K : zK) (l2 : Int) (l0 : Int) (F : zF) (B : zB) : zO := f_Event_top_32 rec4 K l2 l2 l0 F B
set_option maxHeartbeats 4000000 in
set_option maxRecDepth 100000 in
theorem b_Event_top_30 {D : va_G} {ca : Nat → ClassId} {ad : Nat → Int → Nat → Nat} {L : List Nat} {aS vS : Nat → Nat} {A : Nat → Prop} {p : Program} {l : Launch} {e : Env} {s : State} {m : MethodId} {args : Array Value} {below : List Frame} {meth : Method} {c : Code} {K : zK} {r : Int} {F9 : zF} {B9 : zB} (X : zX D ca L aS vS A p s m args meth c prog_3_method_8_code 3 (Option.some Jvm.ClassFile.FieldType.int) "StaveHouse$Event") {rec4 : Int → Int → Int → zF → zB → zO} (hrec4 : ∀ {l2 : Int} {l1 : Int} {l0 : Int} {F : zF} {B : zB} {H : Heap} {locs : List Loc} {ls : Array Slot}, rec4 l2 l1 l0 F B = some (r, F9, B9) → zH D ca ad lnC K.2 L F B A H → va_S A s.heap H locs → lv_has ls 3 [(2, .int (iI l2)), (1, .int (iI l1)), (0, .ref (ad 1 l0 0))] → W p l e ({ frames := 3, cells := 0, slots := 0, locals := 63 } : Room) s m args below meth c H locs 0 0 (MQ below (Q_Event_top K D ca ad L r F9 B9 A) args s 0 0 A) (F0 m 4 ls [])) {l2 : Int} {l0 : Int} {F : zF} {B : zB} {H : Heap} {locs : List Loc} {ls : Array Slot} (hf : f_Event_top_30 rec4 K l2 l0 F B = some (r, F9, B9)) (hZ : zH D ca ad lnC K.2 L F B A H) (hS : va_S A s.heap H locs) (hl : lv_has ls 3 [(2, .int (iI l2)), (0, .ref (ad 1 l0 0))]) : W p l e ({ frames := 3, cells := 0, slots := 0, locals := 63 } : Room) s m args below meth c H locs 0 0 (MQ below (Q_Event_top K D ca ad L r F9 B9 A) args s 0 0 A) (F0 m 30 ls []) := by
  obtain ⟨hx, hb, hr, hml, hown, hts, hlk, hK, hA, hL, hX⟩ := id X
  replace hf : (f_Event_top_32 rec4 K l2 l2 l0 F B) = some (r, F9, B9) := hf
  refine lv_iload_n hx hb (D_28 W_prog_3_method_8_code_0 30 rfl rfl) rfl (lv_at hl 0 rfl) ?_
  refine lv_istore_n (lv' := [(1, .int (iI l2)), (2, .int (iI l2)), (0, .ref (ad 1 l0 0))]) hx hb (D_60 W_prog_3_method_8_code_0 31 rfl rfl) rfl hl (by decide) rfl (fun ls hl => ?_)
  exact b_Event_top_32 X hrec4 hf hZ hS (lv_sub hl [1, 0, 2] rfl)

def f_Event_top_4 (K : zK) : Nat → Int → Int → Int → zF → zB → zO
  | 0, _, _, _, _, _ => none
  | n + 1, l2, l1, l0, F, B => if 0 ≤ l0 ∧ l0 < K.2 1 then if r32 l2 then if r32 (F 1 l0 10) then (if (F 1 l0 10) ≤ l2 then some (l1, F, B) else if r32 l1 then (if l1 = (-1) then f_Event_top_30 (f_Event_top_4 K n) K l2 l0 F B else zbind (f_Event_tone K l0 l2 F B) (fun r7 F7 B7 => zbind (f_Event_tone K l0 l1 F7 B7) (fun r8 F8 B8 => if r32 r7 then if r32 r8 then (if r7 < r8 then f_Event_top_32 (f_Event_top_4 K n) K l2 l1 l0 F8 B8 else f_Event_top_30 (f_Event_top_4 K n) K l2 l0 F8 B8) else none else none))) else none) else none else none else none
set_option maxHeartbeats 4000000 in
set_option maxRecDepth 100000 in
theorem b_Event_top_4 {D : va_G} {ca : Nat → ClassId} {ad : Nat → Int → Nat → Nat} {L : List Nat} {aS vS : Nat → Nat} {A : Nat → Prop} {p : Program} {l : Launch} {e : Env} {s : State} {m : MethodId} {args : Array Value} {below : List Frame} {meth : Method} {c : Code} {K : zK} {r : Int} {F9 : zF} {B9 : zB} (X : zX D ca L aS vS A p s m args meth c prog_3_method_8_code 3 (Option.some Jvm.ClassFile.FieldType.int) "StaveHouse$Event") : ∀ {n : Nat} {l2 : Int} {l1 : Int} {l0 : Int} {F : zF} {B : zB} {H : Heap} {locs : List Loc} {ls : Array Slot}, f_Event_top_4 K n l2 l1 l0 F B = some (r, F9, B9) → zH D ca ad lnC K.2 L F B A H → va_S A s.heap H locs → lv_has ls 3 [(2, .int (iI l2)), (1, .int (iI l1)), (0, .ref (ad 1 l0 0))] → W p l e ({ frames := 3, cells := 0, slots := 0, locals := 63 } : Room) s m args below meth c H locs 0 0 (MQ below (Q_Event_top K D ca ad L r F9 B9 A) args s 0 0 A) (F0 m 4 ls []) := by
  obtain ⟨hx, hb, hr, hml, hown, hts, hlk, hK, hA, hL, hX⟩ := id X
  intro n
  induction n with
  | zero =>
    intros
    rename_i hf _ _ _
    cases hf
  | succ n ih =>
    intro l2 l1 l0 F B H locs ls hf hZ hS hl
    replace hf : (if 0 ≤ l0 ∧ l0 < K.2 1 then if r32 l2 then if r32 (F 1 l0 10) then (if (F 1 l0 10) ≤ l2 then some (l1, F, B) else if r32 l1 then (if l1 = (-1) then f_Event_top_30 (f_Event_top_4 K n) K l2 l0 F B else zbind (f_Event_tone K l0 l2 F B) (fun r7 F7 B7 => zbind (f_Event_tone K l0 l1 F7 B7) (fun r8 F8 B8 => if r32 r7 then if r32 r8 then (if r7 < r8 then f_Event_top_32 (f_Event_top_4 K n) K l2 l1 l0 F8 B8 else f_Event_top_30 (f_Event_top_4 K n) K l2 l0 F8 B8) else none else none))) else none) else none else none else none) = some (r, F9, B9) := hf
    refine lv_iload_n hx hb (D_28 W_prog_3_method_8_code_0 4 rfl rfl) rfl (lv_at hl 0 rfl) ?_
    refine lv_aload_n hx hb (D_42 W_prog_3_method_8_code_0 5 rfl rfl) rfl (lv_at hl 2 rfl) ?_
    obtain ⟨g1, hf⟩ := gif hf
    refine zget (ci := 1) (C := RX1) (T := TX1) (v := .int (iI (F 1 l0 10))) (k := 10) hx hb hts inW_1 hown hK hZ g1.1 g1.2 rfl (by decide) k_2_48 rfl (D_180 W_prog_3_method_8_code_0 6 rfl rfl rfl) ?_
    obtain ⟨g2, hf⟩ := gif hf
    obtain ⟨g3, hf⟩ := gif hf
    refine zge (tgt := 38) hx hb g2 g3 (D_162 W_prog_3_method_8_code_0 9 rfl rfl rfl) (by decide) (fun h4 => ?_) (fun h4 => ?_)
    · replace hf := gpos hf h4
      refine lv_iload_n hx hb (D_27 W_prog_3_method_8_code_32 6 rfl rfl) rfl (lv_at hl 1 rfl) ?_
      cases hf
      exact W.iret hx hb hr (fun t ht hW => ⟨⟨_, (), rfl, rfl, by rw [ht]; exact hZ, va_K.moved hW.alike hK⟩, hS.F ht⟩) hS.2.2 (D_172 W_prog_3_method_8_code_32 7 rfl rfl) hlk
    · replace hf := gneg hf h4
      refine lv_iload_n hx hb (D_27 W_prog_3_method_8_code_0 12 rfl rfl) rfl (lv_at hl 1 rfl) ?_
      refine lv_iconst (v := iI (-1)) hx hb (D_2 W_prog_3_method_8_code_0 13 rfl rfl) rfl ?_
      obtain ⟨g5, hf⟩ := gif hf
      refine zeq (tgt := 30) hx hb g5 (by decide) (D_159 W_prog_3_method_8_code_0 14 rfl rfl rfl) (by decide) (fun h6 => ?_) (fun h6 => ?_)
      · replace hf := gpos hf h6
        exact b_Event_top_30 X ih hf hZ hS (lv_sub hl [0, 2] rfl)
      · replace hf := gneg hf h6
        refine lv_aload_n hx hb (D_42 W_prog_3_method_8_code_0 17 rfl rfl) rfl (lv_at hl 2 rfl) ?_
        refine lv_iload_n hx hb (D_28 W_prog_3_method_8_code_0 18 rfl rfl) rfl (lv_at hl 0 rfl) ?_
        obtain ⟨r7, F7, B7, hc7, hf⟩ := gbind hf
        refine va_calli (va_runV (As := [.int (iI l2)]) (rest := []) ⟨hx, hb, hml, hown, hts⟩ (c_Event_tone (l := l) hc7) (cwV 1 hts (gdV k_6_21 k_6_22 k_6_23 k_1_8 k_6_24) rfl rfl rfl (by decide +kernel) ⟨Nat.le_of_ble_eq_true rfl, Nat.le_of_ble_eq_true rfl⟩) (zPV X hZ hS (ci := 1) g1.1 g1.2 (r := (RX1, TX1, 14)) rfl [.int (iI l2)]) rfl rfl hl.1 rfl (lv_room (Nat.le_of_ble_eq_true rfl)) (D_182 W_prog_3_method_8_code_0 19 rfl rfl rfl) ⟨Nat.le_of_ble_eq_true rfl, Nat.le_of_ble_eq_true rfl⟩) hS (fun q _ h => zAin X hS q h) (zAin X hS) (fun p7 u7 t7 H7 locs7 ht7 hv7 hw7 hB7 hz7 hk7 hS7 => ?_)
        have hZ7 := zBack X ht7 hB7
        subst hw7
        refine lv_aload_n hx hb (D_42 W_prog_3_method_8_code_0 22 rfl rfl) rfl (lv_at hl 2 rfl) ?_
        refine lv_iload_n hx hb (D_27 W_prog_3_method_8_code_0 23 rfl rfl) rfl (lv_at hl 1 rfl) ?_
        obtain ⟨r8, F8, B8, hc8, hf⟩ := gbind hf
        refine va_calli (va_runV (As := [.int (iI l1)]) (rest := [.int (iI r7)]) ⟨hx, hb, hml, hown, hts⟩ (c_Event_tone (l := l) hc8) (cwV 1 hts (gdV k_6_21 k_6_22 k_6_23 k_1_8 k_6_24) rfl rfl rfl (by decide +kernel) ⟨Nat.le_of_ble_eq_true rfl, Nat.le_of_ble_eq_true rfl⟩) (zPV X hZ7 hS7 (ci := 1) g1.1 g1.2 (r := (RX1, TX1, 14)) rfl [.int (iI l1)]) rfl rfl hl.1 rfl (lv_room (Nat.le_of_ble_eq_true rfl)) (D_182 W_prog_3_method_8_code_0 24 rfl rfl rfl) ⟨Nat.le_of_ble_eq_true rfl, Nat.le_of_ble_eq_true rfl⟩) hS7 (fun q _ h => zAin X hS7 q h) (zAin X hS7) (fun p8 u8 t8 H8 locs8 ht8 hv8 hw8 hB8 hz8 hk8 hS8 => ?_)
        have hZ8 := zBack X ht8 hB8
        subst hw8
        obtain ⟨g9, hf⟩ := gif hf
        obtain ⟨g10, hf⟩ := gif hf
        refine zlt (tgt := 32) hx hb g9 g10 (D_161 W_prog_3_method_8_code_0 27 rfl rfl rfl) (by decide) (fun h11 => ?_) (fun h11 => ?_)
        · replace hf := gpos hf h11
          exact b_Event_top_32 X ih hf hZ8 hS8 (lv_sub hl [0, 1, 2] rfl)
        · replace hf := gneg hf h11
          exact b_Event_top_30 X ih hf hZ8 hS8 (lv_sub hl [0, 2] rfl)

def f_Event_top (K : zK) (l0 : Int) (F : zF) (B : zB) : zO := f_Event_top_4 K K.1 0 (-1) l0 F B
set_option maxHeartbeats 4000000 in
set_option maxRecDepth 100000 in
theorem c_Event_top {l : Launch} {D : va_G} {ca : Nat → ClassId} {ad : Nat → Int → Nat → Nat} {L : List Nat} {aS vS : Nat → Nat} {sz : Nat} {K : zK}  {l0 : Int} {F F9 : zF} {B B9 : zB} {r : Int} (hf : f_Event_top K l0 F B = some (r, F9, B9)) : Met l ({ cls := "StaveHouse$Event", name := "top", desc := "()I" } : Jvm.MethodName) (Cond.code ({ cls := "StaveHouse$Event", name := "top", desc := "()I" } : Jvm.MethodName) prog_3_method_8_code 3 (Option.some Jvm.ClassFile.FieldType.int) :: wAll) ({ frames := 3, cells := 0, slots := 0, locals := 63 } : Room) (va_Pc [.ref (ad 1 l0 0)] (zPre D ca ad lnC K.2 L aS vS F B sz)) (Q_Event_top K D ca ad L r F9 B9 (zA L sz)) 0 0 (zA L sz) := by
  refine zMet (Qc := Q_Event_top K D ca ad L r F9 B9) (lv := [(0, .ref (ad 1 l0 0))]) (by decide) (Nat.le_of_ble_eq_true rfl) rfl (fun A p e s m below meth c ls X hZ hS hl => ?_)
  obtain ⟨hx, hb, hr, hml, hown, hts, hlk, hK, hA, hL, hX⟩ := id X
  replace hf : (f_Event_top_4 K K.1 0 (-1) l0 F B) = some (r, F9, B9) := hf
  refine lv_iconst (v := iI (-1)) hx hb (D_2 W_prog_3_method_8_code_0 0 rfl rfl) rfl ?_
  refine lv_istore_n (lv' := [(1, .int (iI (-1))), (0, .ref (ad 1 l0 0))]) hx hb (D_60 W_prog_3_method_8_code_0 1 rfl rfl) rfl hl (by decide) rfl (fun ls hl => ?_)
  refine lv_iconst (v := iI 0) hx hb (D_3 W_prog_3_method_8_code_0 2 rfl rfl) rfl ?_
  refine lv_istore_n (lv' := [(2, .int (iI 0)), (1, .int (iI (-1))), (0, .ref (ad 1 l0 0))]) hx hb (D_61 W_prog_3_method_8_code_0 3 rfl rfl) rfl hl (by decide) rfl (fun ls hl => ?_)
  exact b_Event_top_4 X hf hZ hS (lv_sub hl [0, 1, 2] rfl)

abbrev Q_Study_findFaults (K : zK) (D : va_G) (ca : Nat → ClassId) (ad : Nat → Int → Nat → Nat) (L : List Nat) (r : Int) (F : zF) (B : zB) (A : Nat → Prop) : Array Value → State → Outcome → State → Prop := va_Qv (S := Unit) (fun _ => True) (fun _ => zPo D ca ad lnC K.2 L F B A) A
def f_Study_findFaults_104 (rec70 : Int → Int → Int → Int → zF → zB → zO) (rec79 : Int → Int → Int → Int → Int → zF → zB → zO) (K : zK) (l4 : Int) (l3 : Int) (l0 : Int) (l1 : Int) (l2 : Int) (F : zF) (B : zB) : zO := rec79 (l4 + 1) l3 l0 l1 l2 F B
set_option maxHeartbeats 4000000 in
set_option maxRecDepth 100000 in
theorem b_Study_findFaults_104 {D : va_G} {ca : Nat → ClassId} {ad : Nat → Int → Nat → Nat} {L : List Nat} {aS vS : Nat → Nat} {A : Nat → Prop} {p : Program} {l : Launch} {e : Env} {s : State} {m : MethodId} {args : Array Value} {below : List Frame} {meth : Method} {c : Code} {K : zK} {r : Int} {F9 : zF} {B9 : zB} (X : zX D ca L aS vS A p s m args meth c prog_11_method_7_code 6 (Option.none : Option Jvm.ClassFile.FieldType) "StaveHouse$Study") {rec70 : Int → Int → Int → Int → zF → zB → zO} {rec79 : Int → Int → Int → Int → Int → zF → zB → zO} (hrec70 : ∀ {l3 : Int} {l0 : Int} {l1 : Int} {l2 : Int} {F : zF} {B : zB} {H : Heap} {locs : List Loc} {ls : Array Slot}, rec70 l3 l0 l1 l2 F B = some (r, F9, B9) → zH D ca ad lnC K.2 L F B A H → va_S A s.heap H locs → lv_has ls 6 [(3, .int (iI l3)), (0, .ref (ad 9 l0 0)), (1, .int (iI l1)), (2, .int (iI l2))] → W p l e ({ frames := 3, cells := 0, slots := 0, locals := 77 } : Room) s m args below meth c H locs 0 0 (MQ below (Q_Study_findFaults K D ca ad L r F9 B9 A) args s 0 0 A) (F0 m 70 ls [])) (hrec79 : ∀ {l4 : Int} {l3 : Int} {l0 : Int} {l1 : Int} {l2 : Int} {F : zF} {B : zB} {H : Heap} {locs : List Loc} {ls : Array Slot}, rec79 l4 l3 l0 l1 l2 F B = some (r, F9, B9) → zH D ca ad lnC K.2 L F B A H → va_S A s.heap H locs → lv_has ls 6 [(4, .int (iI l4)), (3, .int (iI l3)), (0, .ref (ad 9 l0 0)), (1, .int (iI l1)), (2, .int (iI l2))] → W p l e ({ frames := 3, cells := 0, slots := 0, locals := 77 } : Room) s m args below meth c H locs 0 0 (MQ below (Q_Study_findFaults K D ca ad L r F9 B9 A) args s 0 0 A) (F0 m 79 ls [])) {l4 : Int} {l3 : Int} {l0 : Int} {l1 : Int} {l2 : Int} {F : zF} {B : zB} {H : Heap} {locs : List Loc} {ls : Array Slot} (hf : f_Study_findFaults_104 rec70 rec79 K l4 l3 l0 l1 l2 F B = some (r, F9, B9)) (hZ : zH D ca ad lnC K.2 L F B A H) (hS : va_S A s.heap H locs) (hl : lv_has ls 6 [(4, .int (iI l4)), (3, .int (iI l3)), (0, .ref (ad 9 l0 0)), (1, .int (iI l1)), (2, .int (iI l2))]) : W p l e ({ frames := 3, cells := 0, slots := 0, locals := 77 } : Room) s m args below meth c H locs 0 0 (MQ below (Q_Study_findFaults K D ca ad L r F9 B9 A) args s 0 0 A) (F0 m 104 ls []) := by
  obtain ⟨hx, hb, hr, hml, hown, hts, hlk, hK, hA, hL, hX⟩ := id X
  replace hf : (rec79 (l4 + 1) l3 l0 l1 l2 F B) = some (r, F9, B9) := hf
  refine lv_iinc (v := iI (l4 + 1)) (lv' := [(4, .int (iI (l4 + 1))), (3, .int (iI l3)), (0, .ref (ad 9 l0 0)), (1, .int (iI l1)), (2, .int (iI l2))]) hx hb d_11_7_104 hl (k := 0) rfl (iI_add _ 1) (by decide) rfl (fun ls hl => ?_)
  refine lv_goto (tgt := 79) hx hb (D_167 W_prog_11_method_7_code_96 11 rfl rfl rfl) (by decide) ?_
  exact hrec79 hf hZ hS (lv_sub hl [0, 1, 2, 3, 4] rfl)

def f_Study_findFaults_79 (rec70 : Int → Int → Int → Int → zF → zB → zO) (K : zK) : Nat → Int → Int → Int → Int → Int → zF → zB → zO
  | 0, _, _, _, _, _, _, _ => none
  | n + 1, l4, l3, l0, l1, l2, F, B => if r32 l4 then if r32 l1 then (if l1 ≤ l4 then rec70 (l3 + 1) l0 l1 l2 F B else if 0 ≤ l0 ∧ l0 < K.2 9 then zbind (f_Study_isFaultOfOne K l0 l3 l4 F B) (fun r20 F20 B20 => if r32 r20 then (if r20 = 0 then f_Study_findFaults_104 rec70 (f_Study_findFaults_79 rec70 K n) K l4 l3 l0 l1 l2 F20 B20 else zbind (f_Study_addFault K l0 l2 l3 l4 (-1) F20 B20) (fun r23 F23 B23 => f_Study_findFaults_104 rec70 (f_Study_findFaults_79 rec70 K n) K l4 l3 l0 l1 l2 F23 B23)) else none) else none) else none else none
set_option maxHeartbeats 4000000 in
set_option maxRecDepth 100000 in
theorem b_Study_findFaults_79 {D : va_G} {ca : Nat → ClassId} {ad : Nat → Int → Nat → Nat} {L : List Nat} {aS vS : Nat → Nat} {A : Nat → Prop} {p : Program} {l : Launch} {e : Env} {s : State} {m : MethodId} {args : Array Value} {below : List Frame} {meth : Method} {c : Code} {K : zK} {r : Int} {F9 : zF} {B9 : zB} (X : zX D ca L aS vS A p s m args meth c prog_11_method_7_code 6 (Option.none : Option Jvm.ClassFile.FieldType) "StaveHouse$Study") {rec70 : Int → Int → Int → Int → zF → zB → zO} (hrec70 : ∀ {l3 : Int} {l0 : Int} {l1 : Int} {l2 : Int} {F : zF} {B : zB} {H : Heap} {locs : List Loc} {ls : Array Slot}, rec70 l3 l0 l1 l2 F B = some (r, F9, B9) → zH D ca ad lnC K.2 L F B A H → va_S A s.heap H locs → lv_has ls 6 [(3, .int (iI l3)), (0, .ref (ad 9 l0 0)), (1, .int (iI l1)), (2, .int (iI l2))] → W p l e ({ frames := 3, cells := 0, slots := 0, locals := 77 } : Room) s m args below meth c H locs 0 0 (MQ below (Q_Study_findFaults K D ca ad L r F9 B9 A) args s 0 0 A) (F0 m 70 ls [])) : ∀ {n : Nat} {l4 : Int} {l3 : Int} {l0 : Int} {l1 : Int} {l2 : Int} {F : zF} {B : zB} {H : Heap} {locs : List Loc} {ls : Array Slot}, f_Study_findFaults_79 rec70 K n l4 l3 l0 l1 l2 F B = some (r, F9, B9) → zH D ca ad lnC K.2 L F B A H → va_S A s.heap H locs → lv_has ls 6 [(4, .int (iI l4)), (3, .int (iI l3)), (0, .ref (ad 9 l0 0)), (1, .int (iI l1)), (2, .int (iI l2))] → W p l e ({ frames := 3, cells := 0, slots := 0, locals := 77 } : Room) s m args below meth c H locs 0 0 (MQ below (Q_Study_findFaults K D ca ad L r F9 B9 A) args s 0 0 A) (F0 m 79 ls []) := by
  obtain ⟨hx, hb, hr, hml, hown, hts, hlk, hK, hA, hL, hX⟩ := id X
  intro n
  induction n with
  | zero =>
    intros
    rename_i hf _ _ _
    cases hf
  | succ n ih =>
    intro l4 l3 l0 l1 l2 F B H locs ls hf hZ hS hl
    replace hf : (if r32 l4 then if r32 l1 then (if l1 ≤ l4 then rec70 (l3 + 1) l0 l1 l2 F B else if 0 ≤ l0 ∧ l0 < K.2 9 then zbind (f_Study_isFaultOfOne K l0 l3 l4 F B) (fun r20 F20 B20 => if r32 r20 then (if r20 = 0 then f_Study_findFaults_104 rec70 (f_Study_findFaults_79 rec70 K n) K l4 l3 l0 l1 l2 F20 B20 else zbind (f_Study_addFault K l0 l2 l3 l4 (-1) F20 B20) (fun r23 F23 B23 => f_Study_findFaults_104 rec70 (f_Study_findFaults_79 rec70 K n) K l4 l3 l0 l1 l2 F23 B23)) else none) else none) else none else none) = some (r, F9, B9) := hf
    refine lv_iload hx hb (D_21 W_prog_11_method_7_code_64 15 rfl rfl) (lv_at hl 0 rfl) ?_
    refine lv_iload_n hx hb (D_27 W_prog_11_method_7_code_64 17 rfl rfl) rfl (lv_at hl 3 rfl) ?_
    obtain ⟨g16, hf⟩ := gif hf
    obtain ⟨g17, hf⟩ := gif hf
    refine zge (tgt := 110) hx hb g16 g17 (D_162 W_prog_11_method_7_code_64 18 rfl rfl rfl) (by decide) (fun h18 => ?_) (fun h18 => ?_)
    · replace hf := gpos hf h18
      refine lv_iinc (v := iI (l3 + 1)) (lv' := [(3, .int (iI (l3 + 1))), (4, .int (iI l4)), (0, .ref (ad 9 l0 0)), (1, .int (iI l1)), (2, .int (iI l2))]) hx hb d_11_7_110 hl (k := 1) rfl (iI_add _ 1) (by decide) rfl (fun ls hl => ?_)
      refine lv_goto (tgt := 70) hx hb (D_167 W_prog_11_method_7_code_96 17 rfl rfl rfl) (by decide) ?_
      exact hrec70 hf hZ hS (lv_sub hl [0, 2, 3, 4] rfl)
    · replace hf := gneg hf h18
      refine lv_aload_n hx hb (D_42 W_prog_11_method_7_code_64 21 rfl rfl) rfl (lv_at hl 2 rfl) ?_
      refine lv_iload_n hx hb (D_29 W_prog_11_method_7_code_64 22 rfl rfl) rfl (lv_at hl 1 rfl) ?_
      refine lv_iload hx hb (D_21 W_prog_11_method_7_code_64 23 rfl rfl) (lv_at hl 0 rfl) ?_
      obtain ⟨g19, hf⟩ := gif hf
      obtain ⟨r20, F20, B20, hc20, hf⟩ := gbind hf
      refine va_calli (va_runV (As := [.int (iI l3), .int (iI l4)]) (rest := []) ⟨hx, hb, hml, hown, hts⟩ (c_Study_isFaultOfOne (l := l) hc20) (cwV 2 hts (gdV k_6_44 k_6_46 ks_73 k_1_19 k_6_47) rfl rfl rfl (by decide +kernel) ⟨Nat.le_of_ble_eq_true rfl, Nat.le_of_ble_eq_true rfl⟩) (zPV X hZ hS (ci := 9) g19.1 g19.2 (r := (RX9, TX9, 11)) rfl [.int (iI l3), .int (iI l4)]) rfl rfl hl.1 rfl (lv_room (Nat.le_of_ble_eq_true rfl)) (D_182 W_prog_11_method_7_code_64 25 rfl rfl rfl) ⟨Nat.le_of_ble_eq_true rfl, Nat.le_of_ble_eq_true rfl⟩) hS (fun q _ h => zAin X hS q h) (zAin X hS) (fun p20 u20 t20 H20 locs20 ht20 hv20 hw20 hB20 hz20 hk20 hS20 => ?_)
      have hZ20 := zBack X ht20 hB20
      subst hw20
      obtain ⟨g21, hf⟩ := gif hf
      refine z0eq (tgt := 104) hx hb g21 (D_153 W_prog_11_method_7_code_64 28 rfl rfl rfl) (by decide) (fun h22 => ?_) (fun h22 => ?_)
      · replace hf := gpos hf h22
        exact b_Study_findFaults_104 X hrec70 ih hf hZ20 hS20 (lv_sub hl [0, 1, 2, 3, 4] rfl)
      · replace hf := gneg hf h22
        refine lv_aload_n hx hb (D_42 W_prog_11_method_7_code_64 31 rfl rfl) rfl (lv_at hl 2 rfl) ?_
        refine lv_iload_n hx hb (D_28 W_prog_11_method_7_code_96 0 rfl rfl) rfl (lv_at hl 4 rfl) ?_
        refine lv_iload_n hx hb (D_29 W_prog_11_method_7_code_96 1 rfl rfl) rfl (lv_at hl 1 rfl) ?_
        refine lv_iload hx hb (D_21 W_prog_11_method_7_code_96 2 rfl rfl) (lv_at hl 0 rfl) ?_
        refine lv_iconst (v := iI (-1)) hx hb (D_2 W_prog_11_method_7_code_96 4 rfl rfl) rfl ?_
        obtain ⟨r23, F23, B23, hc23, hf⟩ := gbind hf
        refine va_callv (va_runV (As := [.int (iI l2), .int (iI l3), .int (iI l4), .int (iI (-1))]) (rest := []) ⟨hx, hb, hml, hown, hts⟩ (c_Study_addFault (l := l) hc23) (cwV 4 hts (gdV k_6_40 k_6_42 ks_72 k_1_19 k_6_43) rfl rfl rfl (by decide +kernel) ⟨Nat.le_of_ble_eq_true rfl, Nat.le_of_ble_eq_true rfl⟩) (zPV X hZ20 hS20 (ci := 9) g19.1 g19.2 (r := (RX9, TX9, 11)) rfl [.int (iI l2), .int (iI l3), .int (iI l4), .int (iI (-1))]) rfl rfl hl.1 rfl (lv_room (Nat.le_of_ble_eq_true rfl)) (D_182 W_prog_11_method_7_code_96 5 rfl rfl rfl) ⟨Nat.le_of_ble_eq_true rfl, Nat.le_of_ble_eq_true rfl⟩) hS20 (fun q _ h => zAin X hS20 q h) (zAin X hS20) (fun u23 t23 H23 locs23 ht23 hv23 hw23 hB23 hz23 hk23 hS23 => ?_)
        have hZ23 := zBack X ht23 hB23
        exact b_Study_findFaults_104 X hrec70 ih hf hZ23 hS23 (lv_sub hl [0, 1, 2, 3, 4] rfl)

def f_Study_findFaults_70 (K : zK) : Nat → Int → Int → Int → Int → zF → zB → zO
  | 0, _, _, _, _, _, _ => none
  | n + 1, l3, l0, l1, l2, F, B => if r32 l3 then (if 6 < l3 then some (0, F, B) else f_Study_findFaults_79 (f_Study_findFaults_70 K n) K K.1 0 l3 l0 l1 l2 F B) else none
set_option maxHeartbeats 4000000 in
set_option maxRecDepth 100000 in
theorem b_Study_findFaults_70 {D : va_G} {ca : Nat → ClassId} {ad : Nat → Int → Nat → Nat} {L : List Nat} {aS vS : Nat → Nat} {A : Nat → Prop} {p : Program} {l : Launch} {e : Env} {s : State} {m : MethodId} {args : Array Value} {below : List Frame} {meth : Method} {c : Code} {K : zK} {r : Int} {F9 : zF} {B9 : zB} (X : zX D ca L aS vS A p s m args meth c prog_11_method_7_code 6 (Option.none : Option Jvm.ClassFile.FieldType) "StaveHouse$Study") : ∀ {n : Nat} {l3 : Int} {l0 : Int} {l1 : Int} {l2 : Int} {F : zF} {B : zB} {H : Heap} {locs : List Loc} {ls : Array Slot}, f_Study_findFaults_70 K n l3 l0 l1 l2 F B = some (r, F9, B9) → zH D ca ad lnC K.2 L F B A H → va_S A s.heap H locs → lv_has ls 6 [(3, .int (iI l3)), (0, .ref (ad 9 l0 0)), (1, .int (iI l1)), (2, .int (iI l2))] → W p l e ({ frames := 3, cells := 0, slots := 0, locals := 77 } : Room) s m args below meth c H locs 0 0 (MQ below (Q_Study_findFaults K D ca ad L r F9 B9 A) args s 0 0 A) (F0 m 70 ls []) := by
  obtain ⟨hx, hb, hr, hml, hown, hts, hlk, hK, hA, hL, hX⟩ := id X
  intro n
  induction n with
  | zero =>
    intros
    rename_i hf _ _ _
    cases hf
  | succ n ih =>
    intro l3 l0 l1 l2 F B H locs ls hf hZ hS hl
    replace hf : (if r32 l3 then (if 6 < l3 then some (0, F, B) else f_Study_findFaults_79 (f_Study_findFaults_70 K n) K K.1 0 l3 l0 l1 l2 F B) else none) = some (r, F9, B9) := hf
    refine lv_iload_n hx hb (D_29 W_prog_11_method_7_code_64 6 rfl rfl) rfl (lv_at hl 0 rfl) ?_
    refine lv_bipush (v := iI 6) hx hb (D_16 W_prog_11_method_7_code_64 7 rfl rfl rfl) (by decide) ?_
    obtain ⟨g14, hf⟩ := gif hf
    refine zgt (tgt := 116) hx hb g14 (by decide) (D_163 W_prog_11_method_7_code_64 9 rfl rfl rfl) (by decide) (fun h15 => ?_) (fun h15 => ?_)
    · replace hf := gpos hf h15
      cases hf
      exact W.vret hx hb hr (fun t ht hW => ⟨⟨(), rfl, trivial, by rw [ht]; exact hZ, va_K.moved hW.alike hK⟩, hS.F ht⟩) hS.2.2 (D_177 W_prog_11_method_7_code_96 20 rfl rfl) hlk
    · replace hf := gneg hf h15
      refine lv_iconst (v := iI 0) hx hb (D_3 W_prog_11_method_7_code_64 12 rfl rfl) rfl ?_
      refine lv_istore (lv' := [(4, .int (iI 0)), (3, .int (iI l3)), (0, .ref (ad 9 l0 0)), (1, .int (iI l1)), (2, .int (iI l2))]) hx hb (D_54 W_prog_11_method_7_code_64 13 rfl rfl) hl (by decide) rfl (fun ls hl => ?_)
      exact b_Study_findFaults_79 X ih hf hZ hS (lv_sub hl [0, 1, 2, 3, 4] rfl)

def f_Study_findFaults_50 (rec2 : Int → Int → Int → Int → zF → zB → zO) (rec10 : Int → Int → Int → Int → Int → zF → zB → zO) (rec22 : Int → Int → Int → Int → Int → Int → zF → zB → zO) (K : zK) (l5 : Int) (l4 : Int) (l3 : Int) (l0 : Int) (l1 : Int) (l2 : Int) (F : zF) (B : zB) : zO := rec22 (l5 + 1) l4 l3 l0 l1 l2 F B
set_option maxHeartbeats 4000000 in
set_option maxRecDepth 100000 in
theorem b_Study_findFaults_50 {D : va_G} {ca : Nat → ClassId} {ad : Nat → Int → Nat → Nat} {L : List Nat} {aS vS : Nat → Nat} {A : Nat → Prop} {p : Program} {l : Launch} {e : Env} {s : State} {m : MethodId} {args : Array Value} {below : List Frame} {meth : Method} {c : Code} {K : zK} {r : Int} {F9 : zF} {B9 : zB} (X : zX D ca L aS vS A p s m args meth c prog_11_method_7_code 6 (Option.none : Option Jvm.ClassFile.FieldType) "StaveHouse$Study") {rec2 : Int → Int → Int → Int → zF → zB → zO} {rec10 : Int → Int → Int → Int → Int → zF → zB → zO} {rec22 : Int → Int → Int → Int → Int → Int → zF → zB → zO} (hrec2 : ∀ {l3 : Int} {l0 : Int} {l1 : Int} {l2 : Int} {F : zF} {B : zB} {H : Heap} {locs : List Loc} {ls : Array Slot}, rec2 l3 l0 l1 l2 F B = some (r, F9, B9) → zH D ca ad lnC K.2 L F B A H → va_S A s.heap H locs → lv_has ls 6 [(3, .int (iI l3)), (0, .ref (ad 9 l0 0)), (1, .int (iI l1)), (2, .int (iI l2))] → W p l e ({ frames := 3, cells := 0, slots := 0, locals := 77 } : Room) s m args below meth c H locs 0 0 (MQ below (Q_Study_findFaults K D ca ad L r F9 B9 A) args s 0 0 A) (F0 m 2 ls [])) (hrec10 : ∀ {l4 : Int} {l3 : Int} {l0 : Int} {l1 : Int} {l2 : Int} {F : zF} {B : zB} {H : Heap} {locs : List Loc} {ls : Array Slot}, rec10 l4 l3 l0 l1 l2 F B = some (r, F9, B9) → zH D ca ad lnC K.2 L F B A H → va_S A s.heap H locs → lv_has ls 6 [(4, .int (iI l4)), (3, .int (iI l3)), (0, .ref (ad 9 l0 0)), (1, .int (iI l1)), (2, .int (iI l2))] → W p l e ({ frames := 3, cells := 0, slots := 0, locals := 77 } : Room) s m args below meth c H locs 0 0 (MQ below (Q_Study_findFaults K D ca ad L r F9 B9 A) args s 0 0 A) (F0 m 10 ls [])) (hrec22 : ∀ {l5 : Int} {l4 : Int} {l3 : Int} {l0 : Int} {l1 : Int} {l2 : Int} {F : zF} {B : zB} {H : Heap} {locs : List Loc} {ls : Array Slot}, rec22 l5 l4 l3 l0 l1 l2 F B = some (r, F9, B9) → zH D ca ad lnC K.2 L F B A H → va_S A s.heap H locs → lv_has ls 6 [(5, .int (iI l5)), (4, .int (iI l4)), (3, .int (iI l3)), (0, .ref (ad 9 l0 0)), (1, .int (iI l1)), (2, .int (iI l2))] → W p l e ({ frames := 3, cells := 0, slots := 0, locals := 77 } : Room) s m args below meth c H locs 0 0 (MQ below (Q_Study_findFaults K D ca ad L r F9 B9 A) args s 0 0 A) (F0 m 22 ls [])) {l5 : Int} {l4 : Int} {l3 : Int} {l0 : Int} {l1 : Int} {l2 : Int} {F : zF} {B : zB} {H : Heap} {locs : List Loc} {ls : Array Slot} (hf : f_Study_findFaults_50 rec2 rec10 rec22 K l5 l4 l3 l0 l1 l2 F B = some (r, F9, B9)) (hZ : zH D ca ad lnC K.2 L F B A H) (hS : va_S A s.heap H locs) (hl : lv_has ls 6 [(5, .int (iI l5)), (4, .int (iI l4)), (3, .int (iI l3)), (0, .ref (ad 9 l0 0)), (1, .int (iI l1)), (2, .int (iI l2))]) : W p l e ({ frames := 3, cells := 0, slots := 0, locals := 77 } : Room) s m args below meth c H locs 0 0 (MQ below (Q_Study_findFaults K D ca ad L r F9 B9 A) args s 0 0 A) (F0 m 50 ls []) := by
  obtain ⟨hx, hb, hr, hml, hown, hts, hlk, hK, hA, hL, hX⟩ := id X
  replace hf : (rec22 (l5 + 1) l4 l3 l0 l1 l2 F B) = some (r, F9, B9) := hf
  refine lv_iinc (v := iI (l5 + 1)) (lv' := [(5, .int (iI (l5 + 1))), (4, .int (iI l4)), (3, .int (iI l3)), (0, .ref (ad 9 l0 0)), (1, .int (iI l1)), (2, .int (iI l2))]) hx hb d_11_7_50 hl (k := 0) rfl (iI_add _ 1) (by decide) rfl (fun ls hl => ?_)
  refine lv_goto (tgt := 22) hx hb (D_167 W_prog_11_method_7_code_32 21 rfl rfl rfl) (by decide) ?_
  exact hrec22 hf hZ hS (lv_sub hl [0, 1, 2, 3, 4, 5] rfl)

def f_Study_findFaults_22 (rec2 : Int → Int → Int → Int → zF → zB → zO) (rec10 : Int → Int → Int → Int → Int → zF → zB → zO) (K : zK) : Nat → Int → Int → Int → Int → Int → Int → zF → zB → zO
  | 0, _, _, _, _, _, _, _, _ => none
  | n + 1, l5, l4, l3, l0, l1, l2, F, B => if r32 l5 then if r32 l1 then (if l1 ≤ l5 then rec10 (l4 + 1) l3 l0 l1 l2 F B else if 0 ≤ l0 ∧ l0 < K.2 9 then zbind (f_Study_isFaultOfTwo K l0 l3 l4 l5 F B) (fun r10 F10 B10 => if r32 r10 then (if r10 = 0 then f_Study_findFaults_50 rec2 rec10 (f_Study_findFaults_22 rec2 rec10 K n) K l5 l4 l3 l0 l1 l2 F10 B10 else zbind (f_Study_addFault K l0 l2 l3 l4 l5 F10 B10) (fun r13 F13 B13 => f_Study_findFaults_50 rec2 rec10 (f_Study_findFaults_22 rec2 rec10 K n) K l5 l4 l3 l0 l1 l2 F13 B13)) else none) else none) else none else none
set_option maxHeartbeats 4000000 in
set_option maxRecDepth 100000 in
theorem b_Study_findFaults_22 {D : va_G} {ca : Nat → ClassId} {ad : Nat → Int → Nat → Nat} {L : List Nat} {aS vS : Nat → Nat} {A : Nat → Prop} {p : Program} {l : Launch} {e : Env} {s : State} {m : MethodId} {args : Array Value} {below : List Frame} {meth : Method} {c : Code} {K : zK} {r : Int} {F9 : zF} {B9 : zB} (X : zX D ca L aS vS A p s m args meth c prog_11_method_7_code 6 (Option.none : Option Jvm.ClassFile.FieldType) "StaveHouse$Study") {rec2 : Int → Int → Int → Int → zF → zB → zO} {rec10 : Int → Int → Int → Int → Int → zF → zB → zO} (hrec2 : ∀ {l3 : Int} {l0 : Int} {l1 : Int} {l2 : Int} {F : zF} {B : zB} {H : Heap} {locs : List Loc} {ls : Array Slot}, rec2 l3 l0 l1 l2 F B = some (r, F9, B9) → zH D ca ad lnC K.2 L F B A H → va_S A s.heap H locs → lv_has ls 6 [(3, .int (iI l3)), (0, .ref (ad 9 l0 0)), (1, .int (iI l1)), (2, .int (iI l2))] → W p l e ({ frames := 3, cells := 0, slots := 0, locals := 77 } : Room) s m args below meth c H locs 0 0 (MQ below (Q_Study_findFaults K D ca ad L r F9 B9 A) args s 0 0 A) (F0 m 2 ls [])) (hrec10 : ∀ {l4 : Int} {l3 : Int} {l0 : Int} {l1 : Int} {l2 : Int} {F : zF} {B : zB} {H : Heap} {locs : List Loc} {ls : Array Slot}, rec10 l4 l3 l0 l1 l2 F B = some (r, F9, B9) → zH D ca ad lnC K.2 L F B A H → va_S A s.heap H locs → lv_has ls 6 [(4, .int (iI l4)), (3, .int (iI l3)), (0, .ref (ad 9 l0 0)), (1, .int (iI l1)), (2, .int (iI l2))] → W p l e ({ frames := 3, cells := 0, slots := 0, locals := 77 } : Room) s m args below meth c H locs 0 0 (MQ below (Q_Study_findFaults K D ca ad L r F9 B9 A) args s 0 0 A) (F0 m 10 ls [])) : ∀ {n : Nat} {l5 : Int} {l4 : Int} {l3 : Int} {l0 : Int} {l1 : Int} {l2 : Int} {F : zF} {B : zB} {H : Heap} {locs : List Loc} {ls : Array Slot}, f_Study_findFaults_22 rec2 rec10 K n l5 l4 l3 l0 l1 l2 F B = some (r, F9, B9) → zH D ca ad lnC K.2 L F B A H → va_S A s.heap H locs → lv_has ls 6 [(5, .int (iI l5)), (4, .int (iI l4)), (3, .int (iI l3)), (0, .ref (ad 9 l0 0)), (1, .int (iI l1)), (2, .int (iI l2))] → W p l e ({ frames := 3, cells := 0, slots := 0, locals := 77 } : Room) s m args below meth c H locs 0 0 (MQ below (Q_Study_findFaults K D ca ad L r F9 B9 A) args s 0 0 A) (F0 m 22 ls []) := by
  obtain ⟨hx, hb, hr, hml, hown, hts, hlk, hK, hA, hL, hX⟩ := id X
  intro n
  induction n with
  | zero =>
    intros
    rename_i hf _ _ _
    cases hf
  | succ n ih =>
    intro l5 l4 l3 l0 l1 l2 F B H locs ls hf hZ hS hl
    replace hf : (if r32 l5 then if r32 l1 then (if l1 ≤ l5 then rec10 (l4 + 1) l3 l0 l1 l2 F B else if 0 ≤ l0 ∧ l0 < K.2 9 then zbind (f_Study_isFaultOfTwo K l0 l3 l4 l5 F B) (fun r10 F10 B10 => if r32 r10 then (if r10 = 0 then f_Study_findFaults_50 rec2 rec10 (f_Study_findFaults_22 rec2 rec10 K n) K l5 l4 l3 l0 l1 l2 F10 B10 else zbind (f_Study_addFault K l0 l2 l3 l4 l5 F10 B10) (fun r13 F13 B13 => f_Study_findFaults_50 rec2 rec10 (f_Study_findFaults_22 rec2 rec10 K n) K l5 l4 l3 l0 l1 l2 F13 B13)) else none) else none) else none else none) = some (r, F9, B9) := hf
    refine lv_iload hx hb (D_21 W_prog_11_method_7_code_0 22 rfl rfl) (lv_at hl 0 rfl) ?_
    refine lv_iload_n hx hb (D_27 W_prog_11_method_7_code_0 24 rfl rfl) rfl (lv_at hl 4 rfl) ?_
    obtain ⟨g6, hf⟩ := gif hf
    obtain ⟨g7, hf⟩ := gif hf
    refine zge (tgt := 56) hx hb g6 g7 (D_162 W_prog_11_method_7_code_0 25 rfl rfl rfl) (by decide) (fun h8 => ?_) (fun h8 => ?_)
    · replace hf := gpos hf h8
      refine lv_iinc (v := iI (l4 + 1)) (lv' := [(4, .int (iI (l4 + 1))), (5, .int (iI l5)), (3, .int (iI l3)), (0, .ref (ad 9 l0 0)), (1, .int (iI l1)), (2, .int (iI l2))]) hx hb d_11_7_56 hl (k := 1) rfl (iI_add _ 1) (by decide) rfl (fun ls hl => ?_)
      refine lv_goto (tgt := 10) hx hb (D_167 W_prog_11_method_7_code_32 27 rfl rfl rfl) (by decide) ?_
      exact hrec10 hf hZ hS (lv_sub hl [0, 2, 3, 4, 5] rfl)
    · replace hf := gneg hf h8
      refine lv_aload_n hx hb (D_42 W_prog_11_method_7_code_0 28 rfl rfl) rfl (lv_at hl 3 rfl) ?_
      refine lv_iload_n hx hb (D_29 W_prog_11_method_7_code_0 29 rfl rfl) rfl (lv_at hl 2 rfl) ?_
      refine lv_iload hx hb (D_21 W_prog_11_method_7_code_0 30 rfl rfl) (lv_at hl 1 rfl) ?_
      refine lv_iload hx hb (D_21 W_prog_11_method_7_code_32 0 rfl rfl) (lv_at hl 0 rfl) ?_
      obtain ⟨g9, hf⟩ := gif hf
      obtain ⟨r10, F10, B10, hc10, hf⟩ := gbind hf
      refine va_calli (va_runV (As := [.int (iI l3), .int (iI l4), .int (iI l5)]) (rest := []) ⟨hx, hb, hml, hown, hts⟩ (c_Study_isFaultOfTwo (l := l) hc10) (cwV 3 hts (gdV k_6_31 k_6_33 ks_71 k_1_19 k_6_34) rfl rfl rfl (by decide +kernel) ⟨Nat.le_of_ble_eq_true rfl, Nat.le_of_ble_eq_true rfl⟩) (zPV X hZ hS (ci := 9) g9.1 g9.2 (r := (RX9, TX9, 11)) rfl [.int (iI l3), .int (iI l4), .int (iI l5)]) rfl rfl hl.1 rfl (lv_room (Nat.le_of_ble_eq_true rfl)) (D_182 W_prog_11_method_7_code_32 2 rfl rfl rfl) ⟨Nat.le_of_ble_eq_true rfl, Nat.le_of_ble_eq_true rfl⟩) hS (fun q _ h => zAin X hS q h) (zAin X hS) (fun p10 u10 t10 H10 locs10 ht10 hv10 hw10 hB10 hz10 hk10 hS10 => ?_)
      have hZ10 := zBack X ht10 hB10
      subst hw10
      obtain ⟨g11, hf⟩ := gif hf
      refine z0eq (tgt := 50) hx hb g11 (D_153 W_prog_11_method_7_code_32 5 rfl rfl rfl) (by decide) (fun h12 => ?_) (fun h12 => ?_)
      · replace hf := gpos hf h12
        exact b_Study_findFaults_50 X hrec2 hrec10 ih hf hZ10 hS10 (lv_sub hl [0, 1, 2, 3, 4, 5] rfl)
      · replace hf := gneg hf h12
        refine lv_aload_n hx hb (D_42 W_prog_11_method_7_code_32 8 rfl rfl) rfl (lv_at hl 3 rfl) ?_
        refine lv_iload_n hx hb (D_28 W_prog_11_method_7_code_32 9 rfl rfl) rfl (lv_at hl 5 rfl) ?_
        refine lv_iload_n hx hb (D_29 W_prog_11_method_7_code_32 10 rfl rfl) rfl (lv_at hl 2 rfl) ?_
        refine lv_iload hx hb (D_21 W_prog_11_method_7_code_32 11 rfl rfl) (lv_at hl 1 rfl) ?_
        refine lv_iload hx hb (D_21 W_prog_11_method_7_code_32 13 rfl rfl) (lv_at hl 0 rfl) ?_
        obtain ⟨r13, F13, B13, hc13, hf⟩ := gbind hf
        refine va_callv (va_runV (As := [.int (iI l2), .int (iI l3), .int (iI l4), .int (iI l5)]) (rest := []) ⟨hx, hb, hml, hown, hts⟩ (c_Study_addFault (l := l) hc13) (cwV 4 hts (gdV k_6_40 k_6_42 ks_72 k_1_19 k_6_43) rfl rfl rfl (by decide +kernel) ⟨Nat.le_of_ble_eq_true rfl, Nat.le_of_ble_eq_true rfl⟩) (zPV X hZ10 hS10 (ci := 9) g9.1 g9.2 (r := (RX9, TX9, 11)) rfl [.int (iI l2), .int (iI l3), .int (iI l4), .int (iI l5)]) rfl rfl hl.1 rfl (lv_room (Nat.le_of_ble_eq_true rfl)) (D_182 W_prog_11_method_7_code_32 15 rfl rfl rfl) ⟨Nat.le_of_ble_eq_true rfl, Nat.le_of_ble_eq_true rfl⟩) hS10 (fun q _ h => zAin X hS10 q h) (zAin X hS10) (fun u13 t13 H13 locs13 ht13 hv13 hw13 hB13 hz13 hk13 hS13 => ?_)
        have hZ13 := zBack X ht13 hB13
        exact b_Study_findFaults_50 X hrec2 hrec10 ih hf hZ13 hS13 (lv_sub hl [0, 1, 2, 3, 4, 5] rfl)

def f_Study_findFaults_10 (rec2 : Int → Int → Int → Int → zF → zB → zO) (K : zK) : Nat → Int → Int → Int → Int → Int → zF → zB → zO
  | 0, _, _, _, _, _, _, _ => none
  | n + 1, l4, l3, l0, l1, l2, F, B => if r32 l4 then if r32 l1 then (if l1 ≤ l4 then rec2 (l3 + 1) l0 l1 l2 F B else f_Study_findFaults_22 rec2 (f_Study_findFaults_10 rec2 K n) K K.1 (l4 + 1) l4 l3 l0 l1 l2 F B) else none else none
set_option maxHeartbeats 4000000 in
set_option maxRecDepth 100000 in
theorem b_Study_findFaults_10 {D : va_G} {ca : Nat → ClassId} {ad : Nat → Int → Nat → Nat} {L : List Nat} {aS vS : Nat → Nat} {A : Nat → Prop} {p : Program} {l : Launch} {e : Env} {s : State} {m : MethodId} {args : Array Value} {below : List Frame} {meth : Method} {c : Code} {K : zK} {r : Int} {F9 : zF} {B9 : zB} (X : zX D ca L aS vS A p s m args meth c prog_11_method_7_code 6 (Option.none : Option Jvm.ClassFile.FieldType) "StaveHouse$Study") {rec2 : Int → Int → Int → Int → zF → zB → zO} (hrec2 : ∀ {l3 : Int} {l0 : Int} {l1 : Int} {l2 : Int} {F : zF} {B : zB} {H : Heap} {locs : List Loc} {ls : Array Slot}, rec2 l3 l0 l1 l2 F B = some (r, F9, B9) → zH D ca ad lnC K.2 L F B A H → va_S A s.heap H locs → lv_has ls 6 [(3, .int (iI l3)), (0, .ref (ad 9 l0 0)), (1, .int (iI l1)), (2, .int (iI l2))] → W p l e ({ frames := 3, cells := 0, slots := 0, locals := 77 } : Room) s m args below meth c H locs 0 0 (MQ below (Q_Study_findFaults K D ca ad L r F9 B9 A) args s 0 0 A) (F0 m 2 ls [])) : ∀ {n : Nat} {l4 : Int} {l3 : Int} {l0 : Int} {l1 : Int} {l2 : Int} {F : zF} {B : zB} {H : Heap} {locs : List Loc} {ls : Array Slot}, f_Study_findFaults_10 rec2 K n l4 l3 l0 l1 l2 F B = some (r, F9, B9) → zH D ca ad lnC K.2 L F B A H → va_S A s.heap H locs → lv_has ls 6 [(4, .int (iI l4)), (3, .int (iI l3)), (0, .ref (ad 9 l0 0)), (1, .int (iI l1)), (2, .int (iI l2))] → W p l e ({ frames := 3, cells := 0, slots := 0, locals := 77 } : Room) s m args below meth c H locs 0 0 (MQ below (Q_Study_findFaults K D ca ad L r F9 B9 A) args s 0 0 A) (F0 m 10 ls []) := by
  obtain ⟨hx, hb, hr, hml, hown, hts, hlk, hK, hA, hL, hX⟩ := id X
  intro n
  induction n with
  | zero =>
    intros
    rename_i hf _ _ _
    cases hf
  | succ n ih =>
    intro l4 l3 l0 l1 l2 F B H locs ls hf hZ hS hl
    replace hf : (if r32 l4 then if r32 l1 then (if l1 ≤ l4 then rec2 (l3 + 1) l0 l1 l2 F B else f_Study_findFaults_22 rec2 (f_Study_findFaults_10 rec2 K n) K K.1 (l4 + 1) l4 l3 l0 l1 l2 F B) else none else none) = some (r, F9, B9) := hf
    refine lv_iload hx hb (D_21 W_prog_11_method_7_code_0 10 rfl rfl) (lv_at hl 0 rfl) ?_
    refine lv_iload_n hx hb (D_27 W_prog_11_method_7_code_0 12 rfl rfl) rfl (lv_at hl 3 rfl) ?_
    obtain ⟨g3, hf⟩ := gif hf
    obtain ⟨g4, hf⟩ := gif hf
    refine zge (tgt := 62) hx hb g3 g4 (D_162 W_prog_11_method_7_code_0 13 rfl rfl rfl) (by decide) (fun h5 => ?_) (fun h5 => ?_)
    · replace hf := gpos hf h5
      refine lv_iinc (v := iI (l3 + 1)) (lv' := [(3, .int (iI (l3 + 1))), (4, .int (iI l4)), (0, .ref (ad 9 l0 0)), (1, .int (iI l1)), (2, .int (iI l2))]) hx hb d_11_7_62 hl (k := 1) rfl (iI_add _ 1) (by decide) rfl (fun ls hl => ?_)
      refine lv_goto (tgt := 2) hx hb (D_167 W_prog_11_method_7_code_64 1 rfl rfl rfl) (by decide) ?_
      exact hrec2 hf hZ hS (lv_sub hl [0, 2, 3, 4] rfl)
    · replace hf := gneg hf h5
      refine lv_iload hx hb (D_21 W_prog_11_method_7_code_0 16 rfl rfl) (lv_at hl 0 rfl) ?_
      refine lv_iconst (v := iI 1) hx hb (D_4 W_prog_11_method_7_code_0 18 rfl rfl) rfl ?_
      refine zadd hx hb (D_96 W_prog_11_method_7_code_0 19 rfl rfl) ?_
      refine lv_istore (lv' := [(5, .int (iI (l4 + 1))), (4, .int (iI l4)), (3, .int (iI l3)), (0, .ref (ad 9 l0 0)), (1, .int (iI l1)), (2, .int (iI l2))]) hx hb (D_54 W_prog_11_method_7_code_0 20 rfl rfl) hl (by decide) rfl (fun ls hl => ?_)
      exact b_Study_findFaults_22 X hrec2 ih hf hZ hS (lv_sub hl [0, 1, 2, 3, 4, 5] rfl)

def f_Study_findFaults_2 (K : zK) : Nat → Int → Int → Int → Int → zF → zB → zO
  | 0, _, _, _, _, _, _ => none
  | n + 1, l3, l0, l1, l2, F, B => if r32 l3 then (if 4 < l3 then f_Study_findFaults_70 K K.1 5 l0 l1 l2 F B else f_Study_findFaults_10 (f_Study_findFaults_2 K n) K K.1 0 l3 l0 l1 l2 F B) else none
set_option maxHeartbeats 4000000 in
set_option maxRecDepth 100000 in
theorem b_Study_findFaults_2 {D : va_G} {ca : Nat → ClassId} {ad : Nat → Int → Nat → Nat} {L : List Nat} {aS vS : Nat → Nat} {A : Nat → Prop} {p : Program} {l : Launch} {e : Env} {s : State} {m : MethodId} {args : Array Value} {below : List Frame} {meth : Method} {c : Code} {K : zK} {r : Int} {F9 : zF} {B9 : zB} (X : zX D ca L aS vS A p s m args meth c prog_11_method_7_code 6 (Option.none : Option Jvm.ClassFile.FieldType) "StaveHouse$Study") : ∀ {n : Nat} {l3 : Int} {l0 : Int} {l1 : Int} {l2 : Int} {F : zF} {B : zB} {H : Heap} {locs : List Loc} {ls : Array Slot}, f_Study_findFaults_2 K n l3 l0 l1 l2 F B = some (r, F9, B9) → zH D ca ad lnC K.2 L F B A H → va_S A s.heap H locs → lv_has ls 6 [(3, .int (iI l3)), (0, .ref (ad 9 l0 0)), (1, .int (iI l1)), (2, .int (iI l2))] → W p l e ({ frames := 3, cells := 0, slots := 0, locals := 77 } : Room) s m args below meth c H locs 0 0 (MQ below (Q_Study_findFaults K D ca ad L r F9 B9 A) args s 0 0 A) (F0 m 2 ls []) := by
  obtain ⟨hx, hb, hr, hml, hown, hts, hlk, hK, hA, hL, hX⟩ := id X
  intro n
  induction n with
  | zero =>
    intros
    rename_i hf _ _ _
    cases hf
  | succ n ih =>
    intro l3 l0 l1 l2 F B H locs ls hf hZ hS hl
    replace hf : (if r32 l3 then (if 4 < l3 then f_Study_findFaults_70 K K.1 5 l0 l1 l2 F B else f_Study_findFaults_10 (f_Study_findFaults_2 K n) K K.1 0 l3 l0 l1 l2 F B) else none) = some (r, F9, B9) := hf
    refine lv_iload_n hx hb (D_29 W_prog_11_method_7_code_0 2 rfl rfl) rfl (lv_at hl 0 rfl) ?_
    refine lv_iconst (v := iI 4) hx hb (D_7 W_prog_11_method_7_code_0 3 rfl rfl) rfl ?_
    obtain ⟨g1, hf⟩ := gif hf
    refine zgt (tgt := 68) hx hb g1 (by decide) (D_163 W_prog_11_method_7_code_0 4 rfl rfl rfl) (by decide) (fun h2 => ?_) (fun h2 => ?_)
    · replace hf := gpos hf h2
      refine lv_iconst (v := iI 5) hx hb (D_8 W_prog_11_method_7_code_64 4 rfl rfl) rfl ?_
      refine lv_istore_n (lv' := [(3, .int (iI 5)), (0, .ref (ad 9 l0 0)), (1, .int (iI l1)), (2, .int (iI l2))]) hx hb (D_62 W_prog_11_method_7_code_64 5 rfl rfl) rfl hl (by decide) rfl (fun ls hl => ?_)
      exact b_Study_findFaults_70 X hf hZ hS (lv_sub hl [0, 1, 2, 3] rfl)
    · replace hf := gneg hf h2
      refine lv_iconst (v := iI 0) hx hb (D_3 W_prog_11_method_7_code_0 7 rfl rfl) rfl ?_
      refine lv_istore (lv' := [(4, .int (iI 0)), (3, .int (iI l3)), (0, .ref (ad 9 l0 0)), (1, .int (iI l1)), (2, .int (iI l2))]) hx hb (D_54 W_prog_11_method_7_code_0 8 rfl rfl) hl (by decide) rfl (fun ls hl => ?_)
      exact b_Study_findFaults_10 X ih hf hZ hS (lv_sub hl [0, 1, 2, 3, 4] rfl)

def f_Study_findFaults (K : zK) (l0 : Int) (l1 : Int) (l2 : Int) (F : zF) (B : zB) : zO := f_Study_findFaults_2 K K.1 1 l0 l1 l2 F B
set_option maxHeartbeats 4000000 in
set_option maxRecDepth 100000 in
theorem c_Study_findFaults {l : Launch} {D : va_G} {ca : Nat → ClassId} {ad : Nat → Int → Nat → Nat} {L : List Nat} {aS vS : Nat → Nat} {sz : Nat} {K : zK}  {l0 : Int} {l1 : Int} {l2 : Int} {F F9 : zF} {B B9 : zB} {r : Int} (hf : f_Study_findFaults K l0 l1 l2 F B = some (r, F9, B9)) : Met l ({ cls := "StaveHouse$Study", name := "findFaults", desc := "(II)V" } : Jvm.MethodName) (Cond.code ({ cls := "StaveHouse$Study", name := "findFaults", desc := "(II)V" } : Jvm.MethodName) prog_11_method_7_code 6 (Option.none : Option Jvm.ClassFile.FieldType) :: wAll) ({ frames := 3, cells := 0, slots := 0, locals := 77 } : Room) (va_Pc [.ref (ad 9 l0 0), .int (iI l1), .int (iI l2)] (zPre D ca ad lnC K.2 L aS vS F B sz)) (Q_Study_findFaults K D ca ad L r F9 B9 (zA L sz)) 0 0 (zA L sz) := by
  refine zMet (Qc := Q_Study_findFaults K D ca ad L r F9 B9) (lv := [(0, .ref (ad 9 l0 0)), (1, .int (iI l1)), (2, .int (iI l2))]) (by decide) (Nat.le_of_ble_eq_true rfl) rfl (fun A p e s m below meth c ls X hZ hS hl => ?_)
  obtain ⟨hx, hb, hr, hml, hown, hts, hlk, hK, hA, hL, hX⟩ := id X
  replace hf : (f_Study_findFaults_2 K K.1 1 l0 l1 l2 F B) = some (r, F9, B9) := hf
  refine lv_iconst (v := iI 1) hx hb (D_4 W_prog_11_method_7_code_0 0 rfl rfl) rfl ?_
  refine lv_istore_n (lv' := [(3, .int (iI 1)), (0, .ref (ad 9 l0 0)), (1, .int (iI l1)), (2, .int (iI l2))]) hx hb (D_62 W_prog_11_method_7_code_0 1 rfl rfl) rfl hl (by decide) rfl (fun ls hl => ?_)
  exact b_Study_findFaults_2 X hf hZ hS (lv_sub hl [0, 1, 2, 3] rfl)

abbrev Q_Performance_isTrilled (K : zK) (D : va_G) (ca : Nat → ClassId) (ad : Nat → Int → Nat → Nat) (L : List Nat) (r : Int) (F : zF) (B : zB) (A : Nat → Prop) : Array Value → State → Outcome → State → Prop := va_Qi (S := Unit) (fun p _ => p = iI r) (fun _ => zPo D ca ad lnC K.2 L F B A) A
def f_Performance_isTrilled_46 (K : zK) (s0 : Int) (F : zF) (B : zB) : zO := if (s0 = 0 ∨ s0 = 1) then some (s0, F, B) else none
set_option maxHeartbeats 4000000 in
set_option maxRecDepth 100000 in
theorem b_Performance_isTrilled_46 {D : va_G} {ca : Nat → ClassId} {ad : Nat → Int → Nat → Nat} {L : List Nat} {aS vS : Nat → Nat} {A : Nat → Prop} {p : Program} {l : Launch} {e : Env} {s : State} {m : MethodId} {args : Array Value} {below : List Frame} {meth : Method} {c : Code} {K : zK} {r : Int} {F9 : zF} {B9 : zB} (X : zX D ca L aS vS A p s m args meth c prog_7_method_3_code 3 (Option.some Jvm.ClassFile.FieldType.boolean) "StaveHouse$Performance") {s0 : Int} {F : zF} {B : zB} {H : Heap} {locs : List Loc} {ls : Array Slot} (hf : f_Performance_isTrilled_46 K s0 F B = some (r, F9, B9)) (hZ : zH D ca ad lnC K.2 L F B A H) (hS : va_S A s.heap H locs) (hl : lv_has ls 3 []) : W p l e ({ frames := 3, cells := 0, slots := 0, locals := 67 } : Room) s m args below meth c H locs 0 0 (MQ below (Q_Performance_isTrilled K D ca ad L r F9 B9 A) args s 0 0 A) (F0 m 46 ls [.int (iI s0)]) := by
  obtain ⟨hx, hb, hr, hml, hown, hts, hlk, hK, hA, hL, hX⟩ := id X
  replace hf : (if (s0 = 0 ∨ s0 = 1) then some (s0, F, B) else none) = some (r, F9, B9) := hf
  obtain ⟨g15, hf⟩ := gif hf
  cases hf
  exact W.zret hx hb hr (zbool g15) (fun t ht hW => ⟨⟨_, (), rfl, rfl, by rw [ht]; exact hZ, va_K.moved hW.alike hK⟩, hS.F ht⟩) hS.2.2 (D_172 W_prog_7_method_3_code_32 14 rfl rfl) hlk

def f_Performance_isTrilled_45 (K : zK)  (F : zF) (B : zB) : zO := f_Performance_isTrilled_46 K 0 F B
set_option maxHeartbeats 4000000 in
set_option maxRecDepth 100000 in
theorem b_Performance_isTrilled_45 {D : va_G} {ca : Nat → ClassId} {ad : Nat → Int → Nat → Nat} {L : List Nat} {aS vS : Nat → Nat} {A : Nat → Prop} {p : Program} {l : Launch} {e : Env} {s : State} {m : MethodId} {args : Array Value} {below : List Frame} {meth : Method} {c : Code} {K : zK} {r : Int} {F9 : zF} {B9 : zB} (X : zX D ca L aS vS A p s m args meth c prog_7_method_3_code 3 (Option.some Jvm.ClassFile.FieldType.boolean) "StaveHouse$Performance")  {F : zF} {B : zB} {H : Heap} {locs : List Loc} {ls : Array Slot} (hf : f_Performance_isTrilled_45 K  F B = some (r, F9, B9)) (hZ : zH D ca ad lnC K.2 L F B A H) (hS : va_S A s.heap H locs) (hl : lv_has ls 3 []) : W p l e ({ frames := 3, cells := 0, slots := 0, locals := 67 } : Room) s m args below meth c H locs 0 0 (MQ below (Q_Performance_isTrilled K D ca ad L r F9 B9 A) args s 0 0 A) (F0 m 45 ls []) := by
  obtain ⟨hx, hb, hr, hml, hown, hts, hlk, hK, hA, hL, hX⟩ := id X
  replace hf : (f_Performance_isTrilled_46 K 0 F B) = some (r, F9, B9) := hf
  refine lv_iconst (v := iI 0) hx hb (D_3 W_prog_7_method_3_code_32 13 rfl rfl) rfl ?_
  exact b_Performance_isTrilled_46 X hf hZ hS (lv_sub hl [] rfl)

def f_Performance_isTrilled (K : zK) (l0 : Int) (l1 : Int) (F : zF) (B : zB) : zO := if 0 ≤ l0 ∧ l0 < K.2 4 then if 0 ≤ l1 ∧ l1 < 200 then if 0 ≤ (B 4 l0 5 l1) ∧ (B 4 l0 5 l1) < K.2 1 then zbind (f_Event_has K (B 4 l0 5 l1) 64 F B) (fun r4 F4 B4 => if r32 r4 then (if r4 = 0 then f_Performance_isTrilled_45 K F4 B4 else if r32 (F4 1 (B 4 l0 5 l1) 10) then (if (F4 1 (B 4 l0 5 l1) 10) = 1 then zbind (f_Part_tiedPitches K l0 l1 F4 B4) (fun r9 F9 B9 => if r32 r9 then (if r9 = 0 then zbind (f_Part_isTiedFrom K l0 l1 0 F9 B9) (fun r12 F12 B12 => if r32 r12 then (if r12 = 0 then f_Performance_isTrilled_46 K 1 F12 B12 else f_Performance_isTrilled_45 K F12 B12) else none) else f_Performance_isTrilled_45 K F9 B9) else none) else f_Performance_isTrilled_45 K F4 B4) else none) else none) else none else none else none
set_option maxHeartbeats 4000000 in
set_option maxRecDepth 100000 in
theorem c_Performance_isTrilled {l : Launch} {D : va_G} {ca : Nat → ClassId} {ad : Nat → Int → Nat → Nat} {L : List Nat} {aS vS : Nat → Nat} {sz : Nat} {K : zK}  {l0 : Int} {l1 : Int} {F F9 : zF} {B B9 : zB} {r : Int} (hf : f_Performance_isTrilled K l0 l1 F B = some (r, F9, B9)) : Met l ({ cls := "StaveHouse$Performance", name := "isTrilled", desc := "(LStaveHouse$Part;I)Z" } : Jvm.MethodName) (Cond.code ({ cls := "StaveHouse$Performance", name := "isTrilled", desc := "(LStaveHouse$Part;I)Z" } : Jvm.MethodName) prog_7_method_3_code 3 (Option.some Jvm.ClassFile.FieldType.boolean) :: wAll) ({ frames := 3, cells := 0, slots := 0, locals := 67 } : Room) (va_Pc [.ref (ad 4 l0 0), .int (iI l1)] (zPre D ca ad lnC K.2 L aS vS F B sz)) (Q_Performance_isTrilled K D ca ad L r F9 B9 (zA L sz)) 0 0 (zA L sz) := by
  refine zMet (Qc := Q_Performance_isTrilled K D ca ad L r F9 B9) (lv := [(0, .ref (ad 4 l0 0)), (1, .int (iI l1))]) (by decide) (Nat.le_of_ble_eq_true rfl) rfl (fun A p e s m below meth c ls X hZ hS hl => ?_)
  obtain ⟨hx, hb, hr, hml, hown, hts, hlk, hK, hA, hL, hX⟩ := id X
  replace hf : (if 0 ≤ l0 ∧ l0 < K.2 4 then if 0 ≤ l1 ∧ l1 < 200 then if 0 ≤ (B 4 l0 5 l1) ∧ (B 4 l0 5 l1) < K.2 1 then zbind (f_Event_has K (B 4 l0 5 l1) 64 F B) (fun r4 F4 B4 => if r32 r4 then (if r4 = 0 then f_Performance_isTrilled_45 K F4 B4 else if r32 (F4 1 (B 4 l0 5 l1) 10) then (if (F4 1 (B 4 l0 5 l1) 10) = 1 then zbind (f_Part_tiedPitches K l0 l1 F4 B4) (fun r9 F9 B9 => if r32 r9 then (if r9 = 0 then zbind (f_Part_isTiedFrom K l0 l1 0 F9 B9) (fun r12 F12 B12 => if r32 r12 then (if r12 = 0 then f_Performance_isTrilled_46 K 1 F12 B12 else f_Performance_isTrilled_45 K F12 B12) else none) else f_Performance_isTrilled_45 K F9 B9) else none) else f_Performance_isTrilled_45 K F4 B4) else none) else none) else none else none else none) = some (r, F9, B9) := hf
  refine lv_aload_n hx hb (D_42 W_prog_7_method_3_code_0 0 rfl rfl) rfl (lv_at hl 0 rfl) ?_
  obtain ⟨g1, hf⟩ := gif hf
  refine zget (ci := 4) (C := RX4) (T := TX4) (v := .ref (ad 4 l0 (5 + 1))) (k := 5) hx hb hts inW_4 hown hK hZ g1.1 g1.2 rfl (by decide) k_4_131 rfl (D_180 W_prog_7_method_3_code_0 1 rfl rfl rfl) ?_
  refine lv_iload_n hx hb (D_27 W_prog_7_method_3_code_0 4 rfl rfl) rfl (lv_at hl 1 rfl) ?_
  obtain ⟨g2, hf⟩ := gif hf
  refine zaldR (t := 1) (x := 7) (ci := 4) (k := 5) hx hb hK rfl rfl hZ g1.1 g1.2 rfl (Nat.le_of_ble_eq_true rfl) g2.1 g2.2 (D_50 W_prog_7_method_3_code_0 5 rfl rfl) ?_
  refine zastore_n (lv' := [(0, .ref (ad 4 l0 0)), (1, .int (iI l1))]) hx hb (D_77 W_prog_7_method_3_code_0 6 rfl rfl) rfl hl (by decide) (fun _ _ => rfl) (fun ls hl => ?_)
  refine zaload_n hx hb (D_44 W_prog_7_method_3_code_0 7 rfl rfl) rfl (lv_at hl 0 rfl) ?_
  refine lv_bipush (v := iI 64) hx hb (D_16 W_prog_7_method_3_code_0 8 rfl rfl rfl) (by decide) ?_
  obtain ⟨g3, hf⟩ := gif hf
  refine W.eq (g2 := F0 m 10 ls [.int (iI 64), .ref (ad 1 (B 4 l0 5 l1) 0)]) (by rw [zrf_pos (ad := ad) (t := 1) g3.1]; try rfl) ?_
  obtain ⟨r4, F4, B4, hc4, hf⟩ := gbind hf
  refine va_calli (va_runV (As := [.int (iI 64)]) (rest := []) ⟨hx, hb, hml, hown, hts⟩ (c_Event_has (l := l) hc4) (cwV 1 hts (gdV k_6_119 k_5_16 k_5_17 k_1_8 k_5_18) rfl rfl rfl (by decide +kernel) ⟨Nat.le_of_ble_eq_true rfl, Nat.le_of_ble_eq_true rfl⟩) (zPV X hZ hS (ci := 1) g3.1 g3.2 (r := (RX1, TX1, 14)) rfl [.int (iI 64)]) rfl rfl hl.1 rfl (lv_room (Nat.le_of_ble_eq_true rfl)) (D_182 W_prog_7_method_3_code_0 10 rfl rfl rfl) ⟨Nat.le_of_ble_eq_true rfl, Nat.le_of_ble_eq_true rfl⟩) hS (fun q _ h => zAin X hS q h) (zAin X hS) (fun p4 u4 t4 H4 locs4 ht4 hv4 hw4 hB4 hz4 hk4 hS4 => ?_)
  have hZ4 := zBack X ht4 hB4
  subst hw4
  obtain ⟨g5, hf⟩ := gif hf
  refine z0eq (tgt := 45) hx hb g5 (D_153 W_prog_7_method_3_code_0 13 rfl rfl rfl) (by decide) (fun h6 => ?_) (fun h6 => ?_)
  · replace hf := gpos hf h6
    exact b_Performance_isTrilled_45 X hf hZ4 hS4 (lv_sub hl [] rfl)
  · replace hf := gneg hf h6
    refine zaload_n hx hb (D_44 W_prog_7_method_3_code_0 16 rfl rfl) rfl (lv_at hl 0 rfl) ?_
    refine zunrf g3.1 ?_
    refine zget (ci := 1) (C := RX1) (T := TX1) (v := .int (iI (F4 1 (B 4 l0 5 l1) 10))) (k := 10) hx hb hts inW_1 hown hK hZ4 g3.1 g3.2 rfl (by decide) k_2_49 rfl (D_180 W_prog_7_method_3_code_0 17 rfl rfl rfl) ?_
    refine lv_iconst (v := iI 1) hx hb (D_4 W_prog_7_method_3_code_0 20 rfl rfl) rfl ?_
    obtain ⟨g7, hf⟩ := gif hf
    refine zne (tgt := 45) hx hb g7 (by decide) (D_160 W_prog_7_method_3_code_0 21 rfl rfl rfl) (by decide) (fun h8 => ?_) (fun h8 => ?_)
    · replace hf := gneg hf h8
      exact b_Performance_isTrilled_45 X hf hZ4 hS4 (lv_sub hl [] rfl)
    · replace hf := gpos hf h8
      refine lv_aload_n hx hb (D_42 W_prog_7_method_3_code_0 24 rfl rfl) rfl (lv_at hl 1 rfl) ?_
      refine lv_iload_n hx hb (D_27 W_prog_7_method_3_code_0 25 rfl rfl) rfl (lv_at hl 2 rfl) ?_
      obtain ⟨r9, F9, B9, hc9, hf⟩ := gbind hf
      refine va_calli (va_runV (As := [.int (iI l1)]) (rest := []) ⟨hx, hb, hml, hown, hts⟩ (c_Part_tiedPitches (l := l) hc9) (cwV 1 hts (gdV k_6_120 k_5_38 k_5_39 k_1_18 k_5_40) rfl rfl rfl (by decide +kernel) ⟨Nat.le_of_ble_eq_true rfl, Nat.le_of_ble_eq_true rfl⟩) (zPV X hZ4 hS4 (ci := 4) g1.1 g1.2 (r := (RX4, TX4, 13)) rfl [.int (iI l1)]) rfl rfl hl.1 rfl (lv_room (Nat.le_of_ble_eq_true rfl)) (D_182 W_prog_7_method_3_code_0 26 rfl rfl rfl) ⟨Nat.le_of_ble_eq_true rfl, Nat.le_of_ble_eq_true rfl⟩) hS4 (fun q _ h => zAin X hS4 q h) (zAin X hS4) (fun p9 u9 t9 H9 locs9 ht9 hv9 hw9 hB9 hz9 hk9 hS9 => ?_)
      have hZ9 := zBack X ht9 hB9
      subst hw9
      obtain ⟨g10, hf⟩ := gif hf
      refine z0ne (tgt := 45) hx hb g10 (D_154 W_prog_7_method_3_code_0 29 rfl rfl rfl) (by decide) (fun h11 => ?_) (fun h11 => ?_)
      · replace hf := gneg hf h11
        exact b_Performance_isTrilled_45 X hf hZ9 hS9 (lv_sub hl [] rfl)
      · replace hf := gpos hf h11
        refine lv_aload_n hx hb (D_42 W_prog_7_method_3_code_32 0 rfl rfl) rfl (lv_at hl 1 rfl) ?_
        refine lv_iload_n hx hb (D_27 W_prog_7_method_3_code_32 1 rfl rfl) rfl (lv_at hl 2 rfl) ?_
        refine lv_iconst (v := iI 0) hx hb (D_3 W_prog_7_method_3_code_32 2 rfl rfl) rfl ?_
        obtain ⟨r12, F12, B12, hc12, hf⟩ := gbind hf
        refine va_calli (va_runV (As := [.int (iI l1), .int (iI 0)]) (rest := []) ⟨hx, hb, hml, hown, hts⟩ (c_Part_isTiedFrom (l := l) hc12) (cwV 2 hts (gdV k_6_121 k_5_126 k_5_127 k_1_18 k_5_128) rfl rfl rfl (by decide +kernel) ⟨Nat.le_of_ble_eq_true rfl, Nat.le_of_ble_eq_true rfl⟩) (zPV X hZ9 hS9 (ci := 4) g1.1 g1.2 (r := (RX4, TX4, 13)) rfl [.int (iI l1), .int (iI 0)]) rfl rfl hl.1 rfl (lv_room (Nat.le_of_ble_eq_true rfl)) (D_182 W_prog_7_method_3_code_32 3 rfl rfl rfl) ⟨Nat.le_of_ble_eq_true rfl, Nat.le_of_ble_eq_true rfl⟩) hS9 (fun q _ h => zAin X hS9 q h) (zAin X hS9) (fun p12 u12 t12 H12 locs12 ht12 hv12 hw12 hB12 hz12 hk12 hS12 => ?_)
        have hZ12 := zBack X ht12 hB12
        subst hw12
        obtain ⟨g13, hf⟩ := gif hf
        refine z0ne (tgt := 45) hx hb g13 (D_154 W_prog_7_method_3_code_32 6 rfl rfl rfl) (by decide) (fun h14 => ?_) (fun h14 => ?_)
        · replace hf := gneg hf h14
          exact b_Performance_isTrilled_45 X hf hZ12 hS12 (lv_sub hl [] rfl)
        · replace hf := gpos hf h14
          refine lv_iconst (v := iI 1) hx hb (D_4 W_prog_7_method_3_code_32 9 rfl rfl) rfl ?_
          refine lv_goto (tgt := 46) hx hb (D_167 W_prog_7_method_3_code_32 10 rfl rfl rfl) (by decide) ?_
          exact b_Performance_isTrilled_46 X hf hZ12 hS12 (lv_sub hl [] rfl)

abbrev Q_Performance_trill (K : zK) (D : va_G) (ca : Nat → ClassId) (ad : Nat → Int → Nat → Nat) (L : List Nat) (r : Int) (F : zF) (B : zB) (A : Nat → Prop) : Array Value → State → Outcome → State → Prop := va_Qv (S := Unit) (fun _ => True) (fun _ => zPo D ca ad lnC K.2 L F B A) A
def f_Performance_trill_157 (K : zK)  (F : zF) (B : zB) : zO := some (0, F, B)
set_option maxHeartbeats 4000000 in
set_option maxRecDepth 100000 in
theorem b_Performance_trill_157 {D : va_G} {ca : Nat → ClassId} {ad : Nat → Int → Nat → Nat} {L : List Nat} {aS vS : Nat → Nat} {A : Nat → Prop} {p : Program} {l : Launch} {e : Env} {s : State} {m : MethodId} {args : Array Value} {below : List Frame} {meth : Method} {c : Code} {K : zK} {r : Int} {F9 : zF} {B9 : zB} (X : zX D ca L aS vS A p s m args meth c prog_7_method_10_code 11 (Option.none : Option Jvm.ClassFile.FieldType) "StaveHouse$Performance")  {F : zF} {B : zB} {H : Heap} {locs : List Loc} {ls : Array Slot} (hf : f_Performance_trill_157 K  F B = some (r, F9, B9)) (hZ : zH D ca ad lnC K.2 L F B A H) (hS : va_S A s.heap H locs) (hl : lv_has ls 11 []) : W p l e ({ frames := 3, cells := 0, slots := 0, locals := 67 } : Room) s m args below meth c H locs 0 0 (MQ below (Q_Performance_trill K D ca ad L r F9 B9 A) args s 0 0 A) (F0 m 157 ls []) := by
  obtain ⟨hx, hb, hr, hml, hown, hts, hlk, hK, hA, hL, hX⟩ := id X
  replace hf : (some (0, F, B)) = some (r, F9, B9) := hf
  cases hf
  exact W.vret hx hb hr (fun t ht hW => ⟨⟨(), rfl, trivial, by rw [ht]; exact hZ, va_K.moved hW.alike hK⟩, hS.F ht⟩) hS.2.2 (D_177 W_prog_7_method_10_code_128 29 rfl rfl) hlk

def f_Performance_trill_149 (rec93 : Int → Int → Int → Int → Int → Int → Int → Int → Int → zF → zB → zO) (K : zK) (l10 : Int) (l8 : Int) (l6 : Int) (l5 : Int) (l4 : Int) (l0 : Int) (l2 : Int) (l3 : Int) (s0 : Int) (F : zF) (B : zB) : zO := rec93 (l10 + 12) s0 l8 l6 l5 l4 l0 l2 l3 F B
set_option maxHeartbeats 4000000 in
set_option maxRecDepth 100000 in
theorem b_Performance_trill_149 {D : va_G} {ca : Nat → ClassId} {ad : Nat → Int → Nat → Nat} {L : List Nat} {aS vS : Nat → Nat} {A : Nat → Prop} {p : Program} {l : Launch} {e : Env} {s : State} {m : MethodId} {args : Array Value} {below : List Frame} {meth : Method} {c : Code} {K : zK} {r : Int} {F9 : zF} {B9 : zB} (X : zX D ca L aS vS A p s m args meth c prog_7_method_10_code 11 (Option.none : Option Jvm.ClassFile.FieldType) "StaveHouse$Performance") {rec93 : Int → Int → Int → Int → Int → Int → Int → Int → Int → zF → zB → zO} (hrec93 : ∀ {l10 : Int} {l9 : Int} {l8 : Int} {l6 : Int} {l5 : Int} {l4 : Int} {l0 : Int} {l2 : Int} {l3 : Int} {F : zF} {B : zB} {H : Heap} {locs : List Loc} {ls : Array Slot}, rec93 l10 l9 l8 l6 l5 l4 l0 l2 l3 F B = some (r, F9, B9) → zH D ca ad lnC K.2 L F B A H → va_S A s.heap H locs → lv_has ls 11 [(10, .int (iI l10)), (9, .int (iI l9)), (8, .int (iI l8)), (6, .int (iI l6)), (5, .int (iI l5)), (4, va_rf (zrf ad 1 l4)), (0, .ref (ad 5 l0 0)), (2, .int (iI l2)), (3, .int (iI l3))] → W p l e ({ frames := 3, cells := 0, slots := 0, locals := 67 } : Room) s m args below meth c H locs 0 0 (MQ below (Q_Performance_trill K D ca ad L r F9 B9 A) args s 0 0 A) (F0 m 93 ls [])) {l10 : Int} {l8 : Int} {l6 : Int} {l5 : Int} {l4 : Int} {l0 : Int} {l2 : Int} {l3 : Int} {s0 : Int} {F : zF} {B : zB} {H : Heap} {locs : List Loc} {ls : Array Slot} (hf : f_Performance_trill_149 rec93 K l10 l8 l6 l5 l4 l0 l2 l3 s0 F B = some (r, F9, B9)) (hZ : zH D ca ad lnC K.2 L F B A H) (hS : va_S A s.heap H locs) (hl : lv_has ls 11 [(10, .int (iI l10)), (8, .int (iI l8)), (6, .int (iI l6)), (5, .int (iI l5)), (4, va_rf (zrf ad 1 l4)), (0, .ref (ad 5 l0 0)), (2, .int (iI l2)), (3, .int (iI l3))]) : W p l e ({ frames := 3, cells := 0, slots := 0, locals := 67 } : Room) s m args below meth c H locs 0 0 (MQ below (Q_Performance_trill K D ca ad L r F9 B9 A) args s 0 0 A) (F0 m 149 ls [.int (iI s0)]) := by
  obtain ⟨hx, hb, hr, hml, hown, hts, hlk, hK, hA, hL, hX⟩ := id X
  replace hf : (rec93 (l10 + 12) s0 l8 l6 l5 l4 l0 l2 l3 F B) = some (r, F9, B9) := hf
  refine lv_istore (lv' := [(9, .int (iI s0)), (10, .int (iI l10)), (8, .int (iI l8)), (6, .int (iI l6)), (5, .int (iI l5)), (4, va_rf (zrf ad 1 l4)), (0, .ref (ad 5 l0 0)), (2, .int (iI l2)), (3, .int (iI l3))]) hx hb (D_54 W_prog_7_method_10_code_128 21 rfl rfl) hl (by decide) rfl (fun ls hl => ?_)
  refine lv_iinc (v := iI (l10 + 12)) (lv' := [(10, .int (iI (l10 + 12))), (9, .int (iI s0)), (8, .int (iI l8)), (6, .int (iI l6)), (5, .int (iI l5)), (4, va_rf (zrf ad 1 l4)), (0, .ref (ad 5 l0 0)), (2, .int (iI l2)), (3, .int (iI l3))]) hx hb d_7_10_151 hl (k := 1) rfl (iI_add _ 12) (by decide) rfl (fun ls hl => ?_)
  refine lv_goto (tgt := 93) hx hb (D_167 W_prog_7_method_10_code_128 26 rfl rfl rfl) (by decide) ?_
  exact hrec93 hf hZ hS (lv_sub hl [0, 1, 2, 3, 4, 5, 6, 7, 8] rfl)

def f_Performance_trill_122 (rec93 : Int → Int → Int → Int → Int → Int → Int → Int → Int → zF → zB → zO) (K : zK) (l10 : Int) (l9 : Int) (l8 : Int) (l6 : Int) (l5 : Int) (l4 : Int) (l0 : Int) (l2 : Int) (l3 : Int) (s0 : Int) (s1 : Int) (s2 : Int) (s3 : Int) (F : zF) (B : zB) : zO := if 0 ≤ s0 ∧ s0 < K.2 5 then if 0 ≤ l4 ∧ l4 < K.2 1 then if r32 (l10 + 12) then if r32 l5 then zbind (f_Performance_addSound K s0 s1 s2 s3 l4 l10 (zmin (l10 + 12) l5) F B) (fun r26 F26 B26 => if r32 l9 then (if l9 = 0 then f_Performance_trill_149 rec93 K l10 l8 l6 l5 l4 l0 l2 l3 1 F26 B26 else f_Performance_trill_149 rec93 K l10 l8 l6 l5 l4 l0 l2 l3 0 F26 B26) else none) else none else none else none else none
set_option maxHeartbeats 4000000 in
set_option maxRecDepth 100000 in
theorem b_Performance_trill_122 {D : va_G} {ca : Nat → ClassId} {ad : Nat → Int → Nat → Nat} {L : List Nat} {aS vS : Nat → Nat} {A : Nat → Prop} {p : Program} {l : Launch} {e : Env} {s : State} {m : MethodId} {args : Array Value} {below : List Frame} {meth : Method} {c : Code} {K : zK} {r : Int} {F9 : zF} {B9 : zB} (X : zX D ca L aS vS A p s m args meth c prog_7_method_10_code 11 (Option.none : Option Jvm.ClassFile.FieldType) "StaveHouse$Performance") {rec93 : Int → Int → Int → Int → Int → Int → Int → Int → Int → zF → zB → zO} (hrec93 : ∀ {l10 : Int} {l9 : Int} {l8 : Int} {l6 : Int} {l5 : Int} {l4 : Int} {l0 : Int} {l2 : Int} {l3 : Int} {F : zF} {B : zB} {H : Heap} {locs : List Loc} {ls : Array Slot}, rec93 l10 l9 l8 l6 l5 l4 l0 l2 l3 F B = some (r, F9, B9) → zH D ca ad lnC K.2 L F B A H → va_S A s.heap H locs → lv_has ls 11 [(10, .int (iI l10)), (9, .int (iI l9)), (8, .int (iI l8)), (6, .int (iI l6)), (5, .int (iI l5)), (4, va_rf (zrf ad 1 l4)), (0, .ref (ad 5 l0 0)), (2, .int (iI l2)), (3, .int (iI l3))] → W p l e ({ frames := 3, cells := 0, slots := 0, locals := 67 } : Room) s m args below meth c H locs 0 0 (MQ below (Q_Performance_trill K D ca ad L r F9 B9 A) args s 0 0 A) (F0 m 93 ls [])) {l10 : Int} {l9 : Int} {l8 : Int} {l6 : Int} {l5 : Int} {l4 : Int} {l0 : Int} {l2 : Int} {l3 : Int} {s0 : Int} {s1 : Int} {s2 : Int} {s3 : Int} {F : zF} {B : zB} {H : Heap} {locs : List Loc} {ls : Array Slot} (hf : f_Performance_trill_122 rec93 K l10 l9 l8 l6 l5 l4 l0 l2 l3 s0 s1 s2 s3 F B = some (r, F9, B9)) (hZ : zH D ca ad lnC K.2 L F B A H) (hS : va_S A s.heap H locs) (hl : lv_has ls 11 [(10, .int (iI l10)), (9, .int (iI l9)), (8, .int (iI l8)), (6, .int (iI l6)), (5, .int (iI l5)), (4, va_rf (zrf ad 1 l4)), (0, .ref (ad 5 l0 0)), (2, .int (iI l2)), (3, .int (iI l3))]) : W p l e ({ frames := 3, cells := 0, slots := 0, locals := 67 } : Room) s m args below meth c H locs 0 0 (MQ below (Q_Performance_trill K D ca ad L r F9 B9 A) args s 0 0 A) (F0 m 122 ls [.int (iI s3), .int (iI s2), .int (iI s1), va_rf (zrf ad 5 s0)]) := by
  obtain ⟨hx, hb, hr, hml, hown, hts, hlk, hK, hA, hL, hX⟩ := id X
  replace hf : (if 0 ≤ s0 ∧ s0 < K.2 5 then if 0 ≤ l4 ∧ l4 < K.2 1 then if r32 (l10 + 12) then if r32 l5 then zbind (f_Performance_addSound K s0 s1 s2 s3 l4 l10 (zmin (l10 + 12) l5) F B) (fun r26 F26 B26 => if r32 l9 then (if l9 = 0 then f_Performance_trill_149 rec93 K l10 l8 l6 l5 l4 l0 l2 l3 1 F26 B26 else f_Performance_trill_149 rec93 K l10 l8 l6 l5 l4 l0 l2 l3 0 F26 B26) else none) else none else none else none else none) = some (r, F9, B9) := hf
  refine zaload hx hb (D_25 W_prog_7_method_10_code_96 26 rfl rfl) (lv_at hl 5 rfl) ?_
  refine lv_iload hx hb (D_21 W_prog_7_method_10_code_96 28 rfl rfl) (lv_at hl 0 rfl) ?_
  refine lv_iload hx hb (D_21 W_prog_7_method_10_code_96 30 rfl rfl) (lv_at hl 0 rfl) ?_
  refine lv_bipush (v := iI 12) hx hb (D_16 W_prog_7_method_10_code_128 0 rfl rfl rfl) (by decide) ?_
  refine zadd hx hb (D_96 W_prog_7_method_10_code_128 2 rfl rfl) ?_
  refine lv_iload hx hb (D_21 W_prog_7_method_10_code_128 3 rfl rfl) (lv_at hl 4 rfl) ?_
  obtain ⟨g22, hf⟩ := gif hf
  refine W.eq (g2 := F0 m 133 ls [.int (iI l5), .int (iI (l10 + 12)), .int (iI l10), va_rf (zrf ad 1 l4), .int (iI s3), .int (iI s2), .int (iI s1), .ref (ad 5 s0 0)]) (by rw [zrf_pos (ad := ad) (t := 5) g22.1]; try rfl) ?_
  obtain ⟨g23, hf⟩ := gif hf
  refine W.eq (g2 := F0 m 133 ls [.int (iI l5), .int (iI (l10 + 12)), .int (iI l10), .ref (ad 1 l4 0), .int (iI s3), .int (iI s2), .int (iI s1), .ref (ad 5 s0 0)]) (by rw [zrf_pos (ad := ad) (t := 1) g23.1]; try rfl) ?_
  obtain ⟨g24, hf⟩ := gif hf
  obtain ⟨g25, hf⟩ := gif hf
  refine va_mmin hx hb (by rw [hml]; exact hl.1.symm) hown (hts _ k_6_134) (hts _ k_3_97) (hts _ k_1_3) (hts _ k_3_98) (Nat.le_of_ble_eq_true rfl) (Nat.le_of_ble_eq_true rfl) (Nat.le_of_ble_eq_true rfl) (Nat.le_of_ble_eq_true rfl) (D_184 W_prog_7_method_10_code_128 5 rfl rfl rfl) ?_
  rw [zmin_e g24 g25]
  obtain ⟨r26, F26, B26, hc26, hf⟩ := gbind hf
  refine va_callv (va_runV (As := [.int (iI s1), .int (iI s2), .int (iI s3), .ref (ad 1 l4 0), .int (iI l10), .int (iI (zmin (l10 + 12) l5))]) (rest := []) ⟨hx, hb, hml, hown, hts⟩ (c_Performance_addSound (l := l) hc26) (cwV 6 hts (gdV k_6_135 k_6_137 ks_75 k_1_20 k_6_138) rfl rfl rfl (by decide +kernel) ⟨Nat.le_of_ble_eq_true rfl, Nat.le_of_ble_eq_true rfl⟩) (zPV X hZ hS (ci := 5) g22.1 g22.2 (r := (RX5, TX5, 14)) rfl [.int (iI s1), .int (iI s2), .int (iI s3), .ref (ad 1 l4 0), .int (iI l10), .int (iI (zmin (l10 + 12) l5))]) rfl rfl hl.1 rfl (lv_room (Nat.le_of_ble_eq_true rfl)) (D_182 W_prog_7_method_10_code_128 8 rfl rfl rfl) ⟨Nat.le_of_ble_eq_true rfl, Nat.le_of_ble_eq_true rfl⟩) hS (fun q _ h => zAin X hS q h) (zAin X hS) (fun u26 t26 H26 locs26 ht26 hv26 hw26 hB26 hz26 hk26 hS26 => ?_)
  have hZ26 := zBack X ht26 hB26
  refine lv_iload hx hb (D_21 W_prog_7_method_10_code_128 11 rfl rfl) (lv_at hl 1 rfl) ?_
  obtain ⟨g27, hf⟩ := gif hf
  refine z0ne (tgt := 148) hx hb g27 (D_154 W_prog_7_method_10_code_128 13 rfl rfl rfl) (by decide) (fun h28 => ?_) (fun h28 => ?_)
  · replace hf := gneg hf h28
    refine lv_iconst (v := iI 0) hx hb (D_3 W_prog_7_method_10_code_128 20 rfl rfl) rfl ?_
    exact b_Performance_trill_149 X hrec93 hf hZ26 hS26 (lv_sub hl [0, 2, 3, 4, 5, 6, 7, 8] rfl)
  · replace hf := gpos hf h28
    refine lv_iconst (v := iI 1) hx hb (D_4 W_prog_7_method_10_code_128 16 rfl rfl) rfl ?_
    refine lv_goto (tgt := 149) hx hb (D_167 W_prog_7_method_10_code_128 17 rfl rfl rfl) (by decide) ?_
    exact b_Performance_trill_149 X hrec93 hf hZ26 hS26 (lv_sub hl [0, 2, 3, 4, 5, 6, 7, 8] rfl)

def f_Performance_trill_93 (K : zK) : Nat → Int → Int → Int → Int → Int → Int → Int → Int → Int → zF → zB → zO
  | 0, _, _, _, _, _, _, _, _, _, _, _ => none
  | n + 1, l10, l9, l8, l6, l5, l4, l0, l2, l3, F, B => if r32 l10 then if r32 l5 then (if l5 ≤ l10 then f_Performance_trill_157 K F B else if 0 ≤ l0 ∧ l0 < K.2 5 then if r32 (F 5 l0 1) then (if (F 5 l0 1) = 0 then if r32 l9 then (if l9 = 0 then f_Performance_trill_122 (f_Performance_trill_93 K n) K l10 l9 l8 l6 l5 l4 l0 l2 l3 l0 l2 l3 l6 F B else f_Performance_trill_122 (f_Performance_trill_93 K n) K l10 l9 l8 l6 l5 l4 l0 l2 l3 l0 l2 l3 l8 F B) else none else f_Performance_trill_157 K F B) else none else none) else none else none
set_option maxHeartbeats 4000000 in
set_option maxRecDepth 100000 in
theorem b_Performance_trill_93 {D : va_G} {ca : Nat → ClassId} {ad : Nat → Int → Nat → Nat} {L : List Nat} {aS vS : Nat → Nat} {A : Nat → Prop} {p : Program} {l : Launch} {e : Env} {s : State} {m : MethodId} {args : Array Value} {below : List Frame} {meth : Method} {c : Code} {K : zK} {r : Int} {F9 : zF} {B9 : zB} (X : zX D ca L aS vS A p s m args meth c prog_7_method_10_code 11 (Option.none : Option Jvm.ClassFile.FieldType) "StaveHouse$Performance") : ∀ {n : Nat} {l10 : Int} {l9 : Int} {l8 : Int} {l6 : Int} {l5 : Int} {l4 : Int} {l0 : Int} {l2 : Int} {l3 : Int} {F : zF} {B : zB} {H : Heap} {locs : List Loc} {ls : Array Slot}, f_Performance_trill_93 K n l10 l9 l8 l6 l5 l4 l0 l2 l3 F B = some (r, F9, B9) → zH D ca ad lnC K.2 L F B A H → va_S A s.heap H locs → lv_has ls 11 [(10, .int (iI l10)), (9, .int (iI l9)), (8, .int (iI l8)), (6, .int (iI l6)), (5, .int (iI l5)), (4, va_rf (zrf ad 1 l4)), (0, .ref (ad 5 l0 0)), (2, .int (iI l2)), (3, .int (iI l3))] → W p l e ({ frames := 3, cells := 0, slots := 0, locals := 67 } : Room) s m args below meth c H locs 0 0 (MQ below (Q_Performance_trill K D ca ad L r F9 B9 A) args s 0 0 A) (F0 m 93 ls []) := by
  obtain ⟨hx, hb, hr, hml, hown, hts, hlk, hK, hA, hL, hX⟩ := id X
  intro n
  induction n with
  | zero =>
    intros
    rename_i hf _ _ _
    cases hf
  | succ n ih =>
    intro l10 l9 l8 l6 l5 l4 l0 l2 l3 F B H locs ls hf hZ hS hl
    replace hf : (if r32 l10 then if r32 l5 then (if l5 ≤ l10 then f_Performance_trill_157 K F B else if 0 ≤ l0 ∧ l0 < K.2 5 then if r32 (F 5 l0 1) then (if (F 5 l0 1) = 0 then if r32 l9 then (if l9 = 0 then f_Performance_trill_122 (f_Performance_trill_93 K n) K l10 l9 l8 l6 l5 l4 l0 l2 l3 l0 l2 l3 l6 F B else f_Performance_trill_122 (f_Performance_trill_93 K n) K l10 l9 l8 l6 l5 l4 l0 l2 l3 l0 l2 l3 l8 F B) else none else f_Performance_trill_157 K F B) else none else none) else none else none) = some (r, F9, B9) := hf
    refine lv_iload hx hb (D_21 W_prog_7_method_10_code_64 29 rfl rfl) (lv_at hl 0 rfl) ?_
    refine lv_iload hx hb (D_21 W_prog_7_method_10_code_64 31 rfl rfl) (lv_at hl 4 rfl) ?_
    obtain ⟨g14, hf⟩ := gif hf
    obtain ⟨g15, hf⟩ := gif hf
    refine zge (tgt := 157) hx hb g14 g15 (D_162 W_prog_7_method_10_code_96 1 rfl rfl rfl) (by decide) (fun h16 => ?_) (fun h16 => ?_)
    · replace hf := gpos hf h16
      exact b_Performance_trill_157 X hf hZ hS (lv_sub hl [] rfl)
    · replace hf := gneg hf h16
      refine lv_aload_n hx hb (D_42 W_prog_7_method_10_code_96 4 rfl rfl) rfl (lv_at hl 6 rfl) ?_
      obtain ⟨g17, hf⟩ := gif hf
      refine zget (ci := 5) (C := RX5) (T := TX5) (v := .int (iI (F 5 l0 1))) (k := 1) hx hb hts inW_5 hown hK hZ g17.1 g17.2 rfl (by decide) k_6_65 rfl (D_180 W_prog_7_method_10_code_96 5 rfl rfl rfl) ?_
      obtain ⟨g18, hf⟩ := gif hf
      refine z0ne (tgt := 157) hx hb g18 (D_154 W_prog_7_method_10_code_96 8 rfl rfl rfl) (by decide) (fun h19 => ?_) (fun h19 => ?_)
      · replace hf := gneg hf h19
        exact b_Performance_trill_157 X hf hZ hS (lv_sub hl [] rfl)
      · replace hf := gpos hf h19
        refine lv_aload_n hx hb (D_42 W_prog_7_method_10_code_96 11 rfl rfl) rfl (lv_at hl 6 rfl) ?_
        refine lv_iload_n hx hb (D_28 W_prog_7_method_10_code_96 12 rfl rfl) rfl (lv_at hl 7 rfl) ?_
        refine lv_iload_n hx hb (D_29 W_prog_7_method_10_code_96 13 rfl rfl) rfl (lv_at hl 8 rfl) ?_
        refine lv_iload hx hb (D_21 W_prog_7_method_10_code_96 14 rfl rfl) (lv_at hl 1 rfl) ?_
        obtain ⟨g20, hf⟩ := gif hf
        refine z0eq (tgt := 120) hx hb g20 (D_153 W_prog_7_method_10_code_96 16 rfl rfl rfl) (by decide) (fun h21 => ?_) (fun h21 => ?_)
        · replace hf := gpos hf h21
          refine lv_iload hx hb (D_21 W_prog_7_method_10_code_96 24 rfl rfl) (lv_at hl 3 rfl) ?_
          refine W.eq (g2 := F0 m 122 ls [.int (iI l6), .int (iI l3), .int (iI l2), va_rf (zrf ad 5 l0)]) (by rw [zrf_pos (ad := ad) (t := 5) g17.1]; try rfl) ?_
          exact b_Performance_trill_122 X ih hf hZ hS (lv_sub hl [0, 1, 2, 3, 4, 5, 6, 7, 8] rfl)
        · replace hf := gneg hf h21
          refine lv_iload hx hb (D_21 W_prog_7_method_10_code_96 19 rfl rfl) (lv_at hl 2 rfl) ?_
          refine lv_goto (tgt := 122) hx hb (D_167 W_prog_7_method_10_code_96 21 rfl rfl rfl) (by decide) ?_
          refine W.eq (g2 := F0 m 122 ls [.int (iI l8), .int (iI l3), .int (iI l2), va_rf (zrf ad 5 l0)]) (by rw [zrf_pos (ad := ad) (t := 5) g17.1]; try rfl) ?_
          exact b_Performance_trill_122 X ih hf hZ hS (lv_sub hl [0, 1, 2, 3, 4, 5, 6, 7, 8] rfl)

def f_Performance_trill_78 (K : zK) (l6 : Int) (l5 : Int) (l4 : Int) (l0 : Int) (l2 : Int) (l3 : Int) (s0 : Int) (F : zF) (B : zB) : zO := if 0 ≤ l4 ∧ l4 < K.2 1 then zbind (f_Performance_tick K (F 1 l4 0) F B) (fun r13 F13 B13 => f_Performance_trill_93 K K.1 r13 0 s0 l6 l5 l4 l0 l2 l3 F13 B13) else none
set_option maxHeartbeats 4000000 in
set_option maxRecDepth 100000 in
theorem b_Performance_trill_78 {D : va_G} {ca : Nat → ClassId} {ad : Nat → Int → Nat → Nat} {L : List Nat} {aS vS : Nat → Nat} {A : Nat → Prop} {p : Program} {l : Launch} {e : Env} {s : State} {m : MethodId} {args : Array Value} {below : List Frame} {meth : Method} {c : Code} {K : zK} {r : Int} {F9 : zF} {B9 : zB} (X : zX D ca L aS vS A p s m args meth c prog_7_method_10_code 11 (Option.none : Option Jvm.ClassFile.FieldType) "StaveHouse$Performance") {l6 : Int} {l5 : Int} {l4 : Int} {l0 : Int} {l2 : Int} {l3 : Int} {s0 : Int} {F : zF} {B : zB} {H : Heap} {locs : List Loc} {ls : Array Slot} (hf : f_Performance_trill_78 K l6 l5 l4 l0 l2 l3 s0 F B = some (r, F9, B9)) (hZ : zH D ca ad lnC K.2 L F B A H) (hS : va_S A s.heap H locs) (hl : lv_has ls 11 [(6, .int (iI l6)), (5, .int (iI l5)), (4, va_rf (zrf ad 1 l4)), (0, .ref (ad 5 l0 0)), (2, .int (iI l2)), (3, .int (iI l3))]) : W p l e ({ frames := 3, cells := 0, slots := 0, locals := 67 } : Room) s m args below meth c H locs 0 0 (MQ below (Q_Performance_trill K D ca ad L r F9 B9 A) args s 0 0 A) (F0 m 78 ls [.int (iI s0)]) := by
  obtain ⟨hx, hb, hr, hml, hown, hts, hlk, hK, hA, hL, hX⟩ := id X
  replace hf : (if 0 ≤ l4 ∧ l4 < K.2 1 then zbind (f_Performance_tick K (F 1 l4 0) F B) (fun r13 F13 B13 => f_Performance_trill_93 K K.1 r13 0 s0 l6 l5 l4 l0 l2 l3 F13 B13) else none) = some (r, F9, B9) := hf
  refine lv_istore (lv' := [(8, .int (iI s0)), (6, .int (iI l6)), (5, .int (iI l5)), (4, va_rf (zrf ad 1 l4)), (0, .ref (ad 5 l0 0)), (2, .int (iI l2)), (3, .int (iI l3))]) hx hb (D_54 W_prog_7_method_10_code_64 14 rfl rfl) hl (by decide) rfl (fun ls hl => ?_)
  refine lv_iconst (v := iI 0) hx hb (D_3 W_prog_7_method_10_code_64 16 rfl rfl) rfl ?_
  refine lv_istore (lv' := [(9, .int (iI 0)), (8, .int (iI s0)), (6, .int (iI l6)), (5, .int (iI l5)), (4, va_rf (zrf ad 1 l4)), (0, .ref (ad 5 l0 0)), (2, .int (iI l2)), (3, .int (iI l3))]) hx hb (D_54 W_prog_7_method_10_code_64 17 rfl rfl) hl (by decide) rfl (fun ls hl => ?_)
  refine zaload hx hb (D_25 W_prog_7_method_10_code_64 19 rfl rfl) (lv_at hl 4 rfl) ?_
  obtain ⟨g12, hf⟩ := gif hf
  refine zunrf g12.1 ?_
  refine zget (ci := 1) (C := RX1) (T := TX1) (v := .long (lI (F 1 l4 0))) (k := 0) hx hb hts inW_1 hown hK hZ g12.1 g12.2 rfl (by decide) k_2_22 rfl (D_180 W_prog_7_method_10_code_64 21 rfl rfl rfl) ?_
  obtain ⟨r13, F13, B13, hc13, hf⟩ := gbind hf
  refine va_calli (va_runS (As := [.long (lI (F 1 l4 0))]) (rest := []) ⟨hx, hb, hml, hown, hts⟩ (c_Performance_tick (l := l) hc13) (va_cwS 1 hts (gdS k_6_126 k_6_127 k_1_20 k_6_128) rfl rfl rfl (by decide +kernel) ⟨Nat.le_of_ble_eq_true rfl, Nat.le_of_ble_eq_true rfl⟩) (zPS X hZ hS [.long (lI (F 1 l4 0))]) rfl rfl hl.1 rfl (lv_room (Nat.le_of_ble_eq_true rfl)) (D_184 W_prog_7_method_10_code_64 24 rfl rfl rfl) ⟨Nat.le_of_ble_eq_true rfl, Nat.le_of_ble_eq_true rfl⟩) hS (fun q _ h => zAin X hS q h) (zAin X hS) (fun p13 u13 t13 H13 locs13 ht13 hv13 hw13 hB13 hz13 hk13 hS13 => ?_)
  have hZ13 := zBack X ht13 hB13
  subst hw13
  refine lv_istore (lv' := [(10, .int (iI r13)), (9, .int (iI 0)), (8, .int (iI s0)), (6, .int (iI l6)), (5, .int (iI l5)), (4, va_rf (zrf ad 1 l4)), (0, .ref (ad 5 l0 0)), (2, .int (iI l2)), (3, .int (iI l3))]) hx hb (D_54 W_prog_7_method_10_code_64 27 rfl rfl) hl (by decide) rfl (fun ls hl => ?_)
  exact b_Performance_trill_93 X hf hZ13 hS13 (lv_sub hl [0, 1, 2, 3, 4, 5, 6, 7, 8] rfl)

def f_Performance_trill (K : zK) (l0 : Int) (l1 : Int) (l2 : Int) (l3 : Int) (F : zF) (B : zB) : zO := if 0 ≤ l1 ∧ l1 < K.2 6 then if 0 ≤ l2 ∧ l2 < 4 then if 0 ≤ (B 6 l1 0 l2) ∧ (B 6 l1 0 l2) < K.2 4 then if 0 ≤ l3 ∧ l3 < 200 then if 0 ≤ (B 4 (B 6 l1 0 l2) 5 l3) ∧ (B 4 (B 6 l1 0 l2) 5 l3) < K.2 1 then zbind (f_Performance_tick K ((F 1 (B 4 (B 6 l1 0 l2) 5 l3) 0) + (F 1 (B 4 (B 6 l1 0 l2) 5 l3) 1)) F B) (fun r6 F6 B6 => zbind (f_Event_tone K (B 4 (B 6 l1 0 l2) 5 l3) 0 F6 B6) (fun r7 F7 B7 => if r32 ((B7 1 (B 4 (B 6 l1 0 l2) 5 l3) 12 0) + 1) then (if 63 ≤ ((B7 1 (B 4 (B 6 l1 0 l2) 5 l3) 12 0) + 1) then f_Performance_trill_78 K r7 r6 (B 4 (B 6 l1 0 l2) 5 l3) l0 l2 l3 r7 F7 B7 else zbind (f_S_naturalTone K ((B7 1 (B 4 (B 6 l1 0 l2) 5 l3) 12 0) + 1) F7 B7) (fun r10 F10 B10 => zbind (f_S_keyAlteration K (F10 6 l1 2) (zrm ((B7 1 (B 4 (B 6 l1 0 l2) 5 l3) 12 0) + 1) 7) F10 B10) (fun r11 F11 B11 => f_Performance_trill_78 K r7 r6 (B 4 (B 6 l1 0 l2) 5 l3) l0 l2 l3 (r10 + r11) F11 B11))) else none)) else none else none else none else none else none
set_option maxHeartbeats 4000000 in
set_option maxRecDepth 100000 in
theorem c_Performance_trill {l : Launch} {D : va_G} {ca : Nat → ClassId} {ad : Nat → Int → Nat → Nat} {L : List Nat} {aS vS : Nat → Nat} {sz : Nat} {K : zK}  {l0 : Int} {l1 : Int} {l2 : Int} {l3 : Int} {F F9 : zF} {B B9 : zB} {r : Int} (hf : f_Performance_trill K l0 l1 l2 l3 F B = some (r, F9, B9)) : Met l ({ cls := "StaveHouse$Performance", name := "trill", desc := "(LStaveHouse$Piece;II)V" } : Jvm.MethodName) (Cond.code ({ cls := "StaveHouse$Performance", name := "trill", desc := "(LStaveHouse$Piece;II)V" } : Jvm.MethodName) prog_7_method_10_code 11 (Option.none : Option Jvm.ClassFile.FieldType) :: wAll) ({ frames := 3, cells := 0, slots := 0, locals := 67 } : Room) (va_Pc [.ref (ad 5 l0 0), .ref (ad 6 l1 0), .int (iI l2), .int (iI l3)] (zPre D ca ad lnC K.2 L aS vS F B sz)) (Q_Performance_trill K D ca ad L r F9 B9 (zA L sz)) 0 0 (zA L sz) := by
  refine zMet (Qc := Q_Performance_trill K D ca ad L r F9 B9) (lv := [(0, .ref (ad 5 l0 0)), (1, .ref (ad 6 l1 0)), (2, .int (iI l2)), (3, .int (iI l3))]) (by decide) (Nat.le_of_ble_eq_true rfl) rfl (fun A p e s m below meth c ls X hZ hS hl => ?_)
  obtain ⟨hx, hb, hr, hml, hown, hts, hlk, hK, hA, hL, hX⟩ := id X
  replace hf : (if 0 ≤ l1 ∧ l1 < K.2 6 then if 0 ≤ l2 ∧ l2 < 4 then if 0 ≤ (B 6 l1 0 l2) ∧ (B 6 l1 0 l2) < K.2 4 then if 0 ≤ l3 ∧ l3 < 200 then if 0 ≤ (B 4 (B 6 l1 0 l2) 5 l3) ∧ (B 4 (B 6 l1 0 l2) 5 l3) < K.2 1 then zbind (f_Performance_tick K ((F 1 (B 4 (B 6 l1 0 l2) 5 l3) 0) + (F 1 (B 4 (B 6 l1 0 l2) 5 l3) 1)) F B) (fun r6 F6 B6 => zbind (f_Event_tone K (B 4 (B 6 l1 0 l2) 5 l3) 0 F6 B6) (fun r7 F7 B7 => if r32 ((B7 1 (B 4 (B 6 l1 0 l2) 5 l3) 12 0) + 1) then (if 63 ≤ ((B7 1 (B 4 (B 6 l1 0 l2) 5 l3) 12 0) + 1) then f_Performance_trill_78 K r7 r6 (B 4 (B 6 l1 0 l2) 5 l3) l0 l2 l3 r7 F7 B7 else zbind (f_S_naturalTone K ((B7 1 (B 4 (B 6 l1 0 l2) 5 l3) 12 0) + 1) F7 B7) (fun r10 F10 B10 => zbind (f_S_keyAlteration K (F10 6 l1 2) (zrm ((B7 1 (B 4 (B 6 l1 0 l2) 5 l3) 12 0) + 1) 7) F10 B10) (fun r11 F11 B11 => f_Performance_trill_78 K r7 r6 (B 4 (B 6 l1 0 l2) 5 l3) l0 l2 l3 (r10 + r11) F11 B11))) else none)) else none else none else none else none else none) = some (r, F9, B9) := hf
  refine lv_aload_n hx hb (D_43 W_prog_7_method_10_code_0 0 rfl rfl) rfl (lv_at hl 1 rfl) ?_
  obtain ⟨g1, hf⟩ := gif hf
  refine zget (ci := 6) (C := RX6) (T := TX6) (v := .ref (ad 6 l1 (0 + 1))) (k := 0) hx hb hts inW_6 hown hK hZ g1.1 g1.2 rfl (by decide) k_2_186 rfl (D_180 W_prog_7_method_10_code_0 1 rfl rfl rfl) ?_
  refine lv_iload_n hx hb (D_28 W_prog_7_method_10_code_0 4 rfl rfl) rfl (lv_at hl 2 rfl) ?_
  obtain ⟨g2, hf⟩ := gif hf
  refine zaldR (t := 4) (x := 6) (ci := 6) (k := 0) hx hb hK rfl rfl hZ g1.1 g1.2 rfl (Nat.le_of_ble_eq_true rfl) g2.1 g2.2 (D_50 W_prog_7_method_10_code_0 5 rfl rfl) ?_
  obtain ⟨g3, hf⟩ := gif hf
  refine zunrf g3.1 ?_
  refine zget (ci := 4) (C := RX4) (T := TX4) (v := .ref (ad 4 (B 6 l1 0 l2) (5 + 1))) (k := 5) hx hb hts inW_4 hown hK hZ g3.1 g3.2 rfl (by decide) k_4_131 rfl (D_180 W_prog_7_method_10_code_0 6 rfl rfl rfl) ?_
  refine lv_iload_n hx hb (D_29 W_prog_7_method_10_code_0 9 rfl rfl) rfl (lv_at hl 3 rfl) ?_
  obtain ⟨g4, hf⟩ := gif hf
  refine zaldR (t := 1) (x := 7) (ci := 4) (k := 5) hx hb hK rfl rfl hZ g3.1 g3.2 rfl (Nat.le_of_ble_eq_true rfl) g4.1 g4.2 (D_50 W_prog_7_method_10_code_0 10 rfl rfl) ?_
  refine zastore (lv' := [(0, .ref (ad 5 l0 0)), (1, .ref (ad 6 l1 0)), (2, .int (iI l2)), (3, .int (iI l3))]) hx hb (D_58 W_prog_7_method_10_code_0 11 rfl rfl) hl (by decide) (fun _ _ => rfl) (fun ls hl => ?_)
  refine zaload hx hb (D_25 W_prog_7_method_10_code_0 13 rfl rfl) (lv_at hl 0 rfl) ?_
  obtain ⟨g5, hf⟩ := gif hf
  refine zunrf g5.1 ?_
  refine zget (ci := 1) (C := RX1) (T := TX1) (v := .long (lI (F 1 (B 4 (B 6 l1 0 l2) 5 l3) 0))) (k := 0) hx hb hts inW_1 hown hK hZ g5.1 g5.2 rfl (by decide) k_2_22 rfl (D_180 W_prog_7_method_10_code_0 15 rfl rfl rfl) ?_
  refine zaload hx hb (D_25 W_prog_7_method_10_code_0 18 rfl rfl) (lv_at hl 0 rfl) ?_
  refine zunrf g5.1 ?_
  refine zget (ci := 1) (C := RX1) (T := TX1) (v := .long (lI (F 1 (B 4 (B 6 l1 0 l2) 5 l3) 1))) (k := 1) hx hb hts inW_1 hown hK hZ g5.1 g5.2 rfl (by decide) k_2_25 rfl (D_180 W_prog_7_method_10_code_0 20 rfl rfl rfl) ?_
  refine zladd hx hb (D_97 W_prog_7_method_10_code_0 23 rfl rfl) ?_
  obtain ⟨r6, F6, B6, hc6, hf⟩ := gbind hf
  refine va_calli (va_runS (As := [.long (lI ((F 1 (B 4 (B 6 l1 0 l2) 5 l3) 0) + (F 1 (B 4 (B 6 l1 0 l2) 5 l3) 1)))]) (rest := []) ⟨hx, hb, hml, hown, hts⟩ (c_Performance_tick (l := l) hc6) (va_cwS 1 hts (gdS k_6_126 k_6_127 k_1_20 k_6_128) rfl rfl rfl (by decide +kernel) ⟨Nat.le_of_ble_eq_true rfl, Nat.le_of_ble_eq_true rfl⟩) (zPS X hZ hS [.long (lI ((F 1 (B 4 (B 6 l1 0 l2) 5 l3) 0) + (F 1 (B 4 (B 6 l1 0 l2) 5 l3) 1)))]) rfl rfl hl.1 rfl (lv_room (Nat.le_of_ble_eq_true rfl)) (D_184 W_prog_7_method_10_code_0 24 rfl rfl rfl) ⟨Nat.le_of_ble_eq_true rfl, Nat.le_of_ble_eq_true rfl⟩) hS (fun q _ h => zAin X hS q h) (zAin X hS) (fun p6 u6 t6 H6 locs6 ht6 hv6 hw6 hB6 hz6 hk6 hS6 => ?_)
  have hZ6 := zBack X ht6 hB6
  subst hw6
  refine lv_istore (lv' := [(5, .int (iI r6)), (4, va_rf (zrf ad 1 (B 4 (B 6 l1 0 l2) 5 l3))), (0, .ref (ad 5 l0 0)), (1, .ref (ad 6 l1 0)), (2, .int (iI l2)), (3, .int (iI l3))]) hx hb (D_54 W_prog_7_method_10_code_0 27 rfl rfl) hl (by decide) (by cases zrf ad 1 (B 4 (B 6 l1 0 l2) 5 l3) <;> rfl) (fun ls hl => ?_)
  refine zaload hx hb (D_25 W_prog_7_method_10_code_0 29 rfl rfl) (lv_at hl 1 rfl) ?_
  refine lv_iconst (v := iI 0) hx hb (D_3 W_prog_7_method_10_code_0 31 rfl rfl) rfl ?_
  refine W.eq (g2 := F0 m 32 ls [.int (iI 0), .ref (ad 1 (B 4 (B 6 l1 0 l2) 5 l3) 0)]) (by rw [zrf_pos (ad := ad) (t := 1) g5.1]; try rfl) ?_
  obtain ⟨r7, F7, B7, hc7, hf⟩ := gbind hf
  refine va_calli (va_runV (As := [.int (iI 0)]) (rest := []) ⟨hx, hb, hml, hown, hts⟩ (c_Event_tone (l := l) hc7) (cwV 1 hts (gdV k_6_131 k_6_22 k_6_23 k_1_8 k_6_24) rfl rfl rfl (by decide +kernel) ⟨Nat.le_of_ble_eq_true rfl, Nat.le_of_ble_eq_true rfl⟩) (zPV X hZ6 hS6 (ci := 1) g5.1 g5.2 (r := (RX1, TX1, 14)) rfl [.int (iI 0)]) rfl rfl hl.1 rfl (lv_room (Nat.le_of_ble_eq_true rfl)) (D_182 W_prog_7_method_10_code_32 0 rfl rfl rfl) ⟨Nat.le_of_ble_eq_true rfl, Nat.le_of_ble_eq_true rfl⟩) hS6 (fun q _ h => zAin X hS6 q h) (zAin X hS6) (fun p7 u7 t7 H7 locs7 ht7 hv7 hw7 hB7 hz7 hk7 hS7 => ?_)
  have hZ7 := zBack X ht7 hB7
  subst hw7
  refine lv_istore (lv' := [(6, .int (iI r7)), (5, .int (iI r6)), (4, va_rf (zrf ad 1 (B 4 (B 6 l1 0 l2) 5 l3))), (0, .ref (ad 5 l0 0)), (1, .ref (ad 6 l1 0)), (2, .int (iI l2)), (3, .int (iI l3))]) hx hb (D_54 W_prog_7_method_10_code_32 3 rfl rfl) hl (by decide) rfl (fun ls hl => ?_)
  refine zaload hx hb (D_25 W_prog_7_method_10_code_32 5 rfl rfl) (lv_at hl 2 rfl) ?_
  refine zunrf g5.1 ?_
  refine zget (ci := 1) (C := RX1) (T := TX1) (v := .ref (ad 1 (B 4 (B 6 l1 0 l2) 5 l3) (12 + 1))) (k := 12) hx hb hts inW_1 hown hK hZ7 g5.1 g5.2 rfl (by decide) k_2_59 rfl (D_180 W_prog_7_method_10_code_32 7 rfl rfl rfl) ?_
  refine lv_iconst (v := iI 0) hx hb (D_3 W_prog_7_method_10_code_32 10 rfl rfl) rfl ?_
  refine zald (ci := 1) (k := 12) hx hb hK rfl hZ7 g5.1 g5.2 rfl (Nat.le_of_ble_eq_true rfl) (by decide) (show (0 : Int) < 6 by decide) (D_46 W_prog_7_method_10_code_32 11 rfl rfl) ?_
  refine lv_iconst (v := iI 1) hx hb (D_4 W_prog_7_method_10_code_32 12 rfl rfl) rfl ?_
  refine zadd hx hb (D_96 W_prog_7_method_10_code_32 13 rfl rfl) ?_
  refine lv_istore (lv' := [(7, .int (iI ((B7 1 (B 4 (B 6 l1 0 l2) 5 l3) 12 0) + 1))), (6, .int (iI r7)), (5, .int (iI r6)), (4, va_rf (zrf ad 1 (B 4 (B 6 l1 0 l2) 5 l3))), (0, .ref (ad 5 l0 0)), (1, .ref (ad 6 l1 0)), (2, .int (iI l2)), (3, .int (iI l3))]) hx hb (D_54 W_prog_7_method_10_code_32 14 rfl rfl) hl (by decide) rfl (fun ls hl => ?_)
  refine lv_iload hx hb (D_21 W_prog_7_method_10_code_32 16 rfl rfl) (lv_at hl 0 rfl) ?_
  refine lv_bipush (v := iI 63) hx hb (D_16 W_prog_7_method_10_code_32 18 rfl rfl rfl) (by decide) ?_
  obtain ⟨g8, hf⟩ := gif hf
  refine zge (tgt := 76) hx hb g8 (by decide) (D_162 W_prog_7_method_10_code_32 20 rfl rfl rfl) (by decide) (fun h9 => ?_) (fun h9 => ?_)
  · replace hf := gpos hf h9
    refine lv_iload hx hb (D_21 W_prog_7_method_10_code_64 12 rfl rfl) (lv_at hl 1 rfl) ?_
    exact b_Performance_trill_78 X hf hZ7 hS7 (lv_sub hl [1, 2, 3, 4, 6, 7] rfl)
  · replace hf := gneg hf h9
    refine lv_iload hx hb (D_21 W_prog_7_method_10_code_32 23 rfl rfl) (lv_at hl 0 rfl) ?_
    obtain ⟨r10, F10, B10, hc10, hf⟩ := gbind hf
    refine va_calli (va_runSN (As := [.int (iI ((B7 1 (B 4 (B 6 l1 0 l2) 5 l3) 12 0) + 1))]) (rest := []) ⟨hx, hb, hml, hown, hts⟩ (c_S_naturalTone (l := l) hc10) ⟨va_cnB 1 hts (gdC k_4_64) rfl rfl rfl (hX.1 _ (List.mem_of_getElem? (i := 20) rfl) :) (hts _ k_1_1) (by decide +kernel) ⟨Nat.le_of_ble_eq_true rfl, Nat.le_of_ble_eq_true rfl⟩, hts _ k_4_63, trivial⟩ (zPS X hZ7 hS7 [.int (iI ((B7 1 (B 4 (B 6 l1 0 l2) 5 l3) 12 0) + 1))]) rfl rfl hl.1 rfl (lv_room (Nat.le_of_ble_eq_true rfl)) (D_184 W_prog_7_method_10_code_32 25 rfl rfl rfl) ⟨Nat.le_of_ble_eq_true rfl, Nat.le_of_ble_eq_true rfl⟩) hS7 (fun q _ h => zAin X hS7 q h) (zAin X hS7) (fun p10 u10 t10 H10 locs10 ht10 hv10 hw10 hB10 hz10 hk10 hS10 => ?_)
    have hZ10 := zBack X ht10 hB10
    subst hw10
    refine lv_aload_n hx hb (D_43 W_prog_7_method_10_code_32 28 rfl rfl) rfl (lv_at hl 5 rfl) ?_
    refine zget (ci := 6) (C := RX6) (T := TX6) (v := .int (iI (F10 6 l1 2))) (k := 2) hx hb hts inW_6 hown hK hZ10 g1.1 g1.2 rfl (by decide) k_2_199 rfl (D_180 W_prog_7_method_10_code_32 29 rfl rfl rfl) ?_
    refine lv_iload hx hb (D_21 W_prog_7_method_10_code_64 0 rfl rfl) (lv_at hl 0 rfl) ?_
    refine lv_bipush (v := iI 7) hx hb (D_16 W_prog_7_method_10_code_64 2 rfl rfl rfl) (by decide) ?_
    refine zrm_r hx hb (by decide) (D_112 W_prog_7_method_10_code_64 4 rfl rfl) ?_
    obtain ⟨r11, F11, B11, hc11, hf⟩ := gbind hf
    refine va_calli (va_runSN (As := [.int (iI (F10 6 l1 2)), .int (iI (zrm ((B7 1 (B 4 (B 6 l1 0 l2) 5 l3) 12 0) + 1) 7))]) (rest := [.int (iI r10)]) ⟨hx, hb, hml, hown, hts⟩ (c_S_keyAlteration (l := l) hc11) ⟨va_cnB 2 hts (gdC k_5_118) rfl rfl rfl (hX.1 _ (List.mem_of_getElem? (i := 21) rfl) :) (hts _ k_1_1) (by decide +kernel) ⟨Nat.le_of_ble_eq_true rfl, Nat.le_of_ble_eq_true rfl⟩, hts _ k_5_117, trivial⟩ (zPS X hZ10 hS10 [.int (iI (F10 6 l1 2)), .int (iI (zrm ((B7 1 (B 4 (B 6 l1 0 l2) 5 l3) 12 0) + 1) 7))]) rfl rfl hl.1 rfl (lv_room (Nat.le_of_ble_eq_true rfl)) (D_184 W_prog_7_method_10_code_64 5 rfl rfl rfl) ⟨Nat.le_of_ble_eq_true rfl, Nat.le_of_ble_eq_true rfl⟩) hS10 (fun q _ h => zAin X hS10 q h) (zAin X hS10) (fun p11 u11 t11 H11 locs11 ht11 hv11 hw11 hB11 hz11 hk11 hS11 => ?_)
    have hZ11 := zBack X ht11 hB11
    subst hw11
    refine zadd hx hb (D_96 W_prog_7_method_10_code_64 8 rfl rfl) ?_
    refine lv_goto (tgt := 78) hx hb (D_167 W_prog_7_method_10_code_64 9 rfl rfl rfl) (by decide) ?_
    exact b_Performance_trill_78 X hf hZ11 hS11 (lv_sub hl [1, 2, 3, 4, 6, 7] rfl)

abbrev Q_S_event (K : zK) (D : va_G) (ca : Nat → ClassId) (ad : Nat → Int → Nat → Nat) (L : List Nat) (r : Int) (F : zF) (B : zB) (A : Nat → Prop) : Array Value → State → Outcome → State → Prop := va_Ql (S := Unit) (fun p _ => p = lI r) (fun _ => zPo D ca ad lnC K.2 L F B A) A
def f_S_event (K : zK) (l0 : Int) (l1 : Int) (l2 : Int) (l3 : Int) (l4 : Int) (F : zF) (B : zB) : zO := if 0 ≤ l0 ∧ l0 < K.2 12 then zbind (f_S_eventAt K l0 l1 l2 l3 F B) (fun r2 F2 B2 => (if r2 < 0 then some ((-1), F2, B2) else if r32 l4 then (if l4 = 0 then if 0 ≤ r2 ∧ r2 < K.2 1 then zbind (f_S_above K (F2 1 r2 0) F2 B2) (fun r7 F7 B7 => some (r7, F7, B7)) else none else (if l4 = 1 then if 0 ≤ r2 ∧ r2 < K.2 1 then zbind (f_S_below K (F2 1 r2 0) F2 B2) (fun r10 F10 B10 => some (r10, F10, B10)) else none else (if l4 = 2 then if 0 ≤ r2 ∧ r2 < K.2 1 then zbind (f_S_above K (F2 1 r2 1) F2 B2) (fun r13 F13 B13 => some (r13, F13, B13)) else none else (if l4 = 3 then if 0 ≤ r2 ∧ r2 < K.2 1 then zbind (f_S_below K (F2 1 r2 1) F2 B2) (fun r16 F16 B16 => some (r16, F16, B16)) else none else (if l4 = 4 then if 0 ≤ r2 ∧ r2 < K.2 1 then if r32 (F2 1 r2 10) then some (F2 1 r2 10, F2, B2) else none else none else (if l4 = 5 then if 0 ≤ r2 ∧ r2 < K.2 1 then if r32 (F2 1 r2 7) then some (F2 1 r2 7, F2, B2) else none else none else (if l4 = 6 then if 0 ≤ r2 ∧ r2 < K.2 1 then if r32 (F2 1 r2 8) then some (F2 1 r2 8, F2, B2) else none else none else (if l4 = 7 then if 0 ≤ r2 ∧ r2 < K.2 1 then if r32 (F2 1 r2 9) then some (F2 1 r2 9, F2, B2) else none else none else some ((-1), F2, B2))))))))) else none)) else none
set_option maxHeartbeats 4000000 in
set_option maxRecDepth 100000 in
theorem c_S_event {l : Launch} {D : va_G} {ca : Nat → ClassId} {ad : Nat → Int → Nat → Nat} {L : List Nat} {aS vS : Nat → Nat} {sz : Nat} {K : zK}  {l0 : Int} {l1 : Int} {l2 : Int} {l3 : Int} {l4 : Int} {F F9 : zF} {B B9 : zB} {r : Int} (hf : f_S_event K l0 l1 l2 l3 l4 F B = some (r, F9, B9)) : Met l ({ cls := "StaveHouse", name := "event", desc := "(IIII)J" } : Jvm.MethodName) (Cond.code ({ cls := "StaveHouse", name := "event", desc := "(IIII)J" } : Jvm.MethodName) prog_1_method_13_code 6 (Option.some Jvm.ClassFile.FieldType.long) :: wAll) ({ frames := 3, cells := 0, slots := 0, locals := 68 } : Room) (va_Pc [.ref (ad 12 l0 0), .int (iI l1), .int (iI l2), .int (iI l3), .int (iI l4)] (zPre D ca ad lnC K.2 L aS vS F B sz)) (Q_S_event K D ca ad L r F9 B9 (zA L sz)) 0 0 (zA L sz) := by
  refine zMet (Qc := Q_S_event K D ca ad L r F9 B9) (lv := [(0, .ref (ad 12 l0 0)), (1, .int (iI l1)), (2, .int (iI l2)), (3, .int (iI l3)), (4, .int (iI l4))]) (by decide) (Nat.le_of_ble_eq_true rfl) rfl (fun A p e s m below meth c ls X hZ hS hl => ?_)
  obtain ⟨hx, hb, hr, hml, hown, hts, hlk, hK, hA, hL, hX⟩ := id X
  replace hf : (if 0 ≤ l0 ∧ l0 < K.2 12 then zbind (f_S_eventAt K l0 l1 l2 l3 F B) (fun r2 F2 B2 => (if r2 < 0 then some ((-1), F2, B2) else if r32 l4 then (if l4 = 0 then if 0 ≤ r2 ∧ r2 < K.2 1 then zbind (f_S_above K (F2 1 r2 0) F2 B2) (fun r7 F7 B7 => some (r7, F7, B7)) else none else (if l4 = 1 then if 0 ≤ r2 ∧ r2 < K.2 1 then zbind (f_S_below K (F2 1 r2 0) F2 B2) (fun r10 F10 B10 => some (r10, F10, B10)) else none else (if l4 = 2 then if 0 ≤ r2 ∧ r2 < K.2 1 then zbind (f_S_above K (F2 1 r2 1) F2 B2) (fun r13 F13 B13 => some (r13, F13, B13)) else none else (if l4 = 3 then if 0 ≤ r2 ∧ r2 < K.2 1 then zbind (f_S_below K (F2 1 r2 1) F2 B2) (fun r16 F16 B16 => some (r16, F16, B16)) else none else (if l4 = 4 then if 0 ≤ r2 ∧ r2 < K.2 1 then if r32 (F2 1 r2 10) then some (F2 1 r2 10, F2, B2) else none else none else (if l4 = 5 then if 0 ≤ r2 ∧ r2 < K.2 1 then if r32 (F2 1 r2 7) then some (F2 1 r2 7, F2, B2) else none else none else (if l4 = 6 then if 0 ≤ r2 ∧ r2 < K.2 1 then if r32 (F2 1 r2 8) then some (F2 1 r2 8, F2, B2) else none else none else (if l4 = 7 then if 0 ≤ r2 ∧ r2 < K.2 1 then if r32 (F2 1 r2 9) then some (F2 1 r2 9, F2, B2) else none else none else some ((-1), F2, B2))))))))) else none)) else none) = some (r, F9, B9) := hf
  refine lv_aload_n hx hb (D_42 W_prog_1_method_13_code_0 0 rfl rfl) rfl (lv_at hl 0 rfl) ?_
  refine lv_iload_n hx hb (D_27 W_prog_1_method_13_code_0 1 rfl rfl) rfl (lv_at hl 1 rfl) ?_
  refine lv_iload_n hx hb (D_28 W_prog_1_method_13_code_0 2 rfl rfl) rfl (lv_at hl 2 rfl) ?_
  refine lv_iload_n hx hb (D_29 W_prog_1_method_13_code_0 3 rfl rfl) rfl (lv_at hl 3 rfl) ?_
  obtain ⟨g1, hf⟩ := gif hf
  obtain ⟨r2, F2, B2, hc2, hf⟩ := gbind hf
  refine va_callq (va_runV (As := [.int (iI l1), .int (iI l2), .int (iI l3)]) (rest := []) ⟨hx, hb, hml, hown, hts⟩ (c_S_eventAt (l := l) hc2) (cwV 3 hts (gdV k_6_180 k_6_182 ks_78 k_1_1 k_6_183) rfl rfl rfl (by decide +kernel) ⟨Nat.le_of_ble_eq_true rfl, Nat.le_of_ble_eq_true rfl⟩) (zPV X hZ hS (ci := 12) g1.1 g1.2 (r := (RX12, TX12, 10)) rfl [.int (iI l1), .int (iI l2), .int (iI l3)]) rfl rfl hl.1 rfl (lv_room (Nat.le_of_ble_eq_true rfl)) (D_182 W_prog_1_method_13_code_0 4 rfl rfl rfl) ⟨Nat.le_of_ble_eq_true rfl, Nat.le_of_ble_eq_true rfl⟩) hS (fun q _ h => zAin X hS q h) (zAin X hS) (fun p2 u2 t2 H2 locs2 ht2 hv2 hw2 hB2 hz2 hk2 hS2 => ?_)
  have hZ2 := zBack X ht2 hB2
  subst hw2
  refine zastore (lv' := [(0, .ref (ad 12 l0 0)), (1, .int (iI l1)), (2, .int (iI l2)), (3, .int (iI l3)), (4, .int (iI l4))]) hx hb (D_58 W_prog_1_method_13_code_0 7 rfl rfl) hl (by decide) (fun _ _ => rfl) (fun ls hl => ?_)
  refine zaload hx hb (D_25 W_prog_1_method_13_code_0 9 rfl rfl) (lv_at hl 0 rfl) ?_
  refine zifnonnull (tgt := 18) hx hb (D_199 W_prog_1_method_13_code_0 11 rfl rfl rfl) (by decide) (fun h3 => ?_) (fun h3 => ?_)
  · replace hf := gneg hf h3
    refine lv_iload hx hb (D_21 W_prog_1_method_13_code_0 18 rfl rfl) (lv_at hl 5 rfl) ?_
    obtain ⟨g4, hf⟩ := gif hf
    by_cases h5 : l4 = 0
    · replace hf := gpos hf h5
      refine lv_tableIn (off := 48) (tgt := 68) hx hb d_1_13_20 (by rw [iI_to g4, h5]; decide) (by rw [iI_to g4, h5]; decide) (by rw [iI_to g4, h5]; rfl) (by decide) ?_
      refine zaload hx hb (D_25 W_prog_1_method_13_code_64 4 rfl rfl) (lv_at hl 0 rfl) ?_
      obtain ⟨g6, hf⟩ := gif hf
      refine zunrf g6.1 ?_
      refine zget (ci := 1) (C := RX1) (T := TX1) (v := .long (lI (F2 1 r2 0))) (k := 0) hx hb hts inW_1 hown hK hZ2 g6.1 g6.2 rfl (by decide) k_2_23 rfl (D_180 W_prog_1_method_13_code_64 6 rfl rfl rfl) ?_
      obtain ⟨r7, F7, B7, hc7, hf⟩ := gbind hf
      refine va_calll (va_runS (As := [.long (lI (F2 1 r2 0))]) (rest := []) ⟨hx, hb, hml, hown, hts⟩ (c_S_above (l := l) hc7) (va_cwS 1 hts (gdS k_6_185 k_6_186 k_1_1 k_6_187) rfl rfl rfl (by decide +kernel) ⟨Nat.le_of_ble_eq_true rfl, Nat.le_of_ble_eq_true rfl⟩) (zPS X hZ2 hS2 [.long (lI (F2 1 r2 0))]) rfl rfl hl.1 rfl (lv_room (Nat.le_of_ble_eq_true rfl)) (D_184 W_prog_1_method_13_code_64 9 rfl rfl rfl) ⟨Nat.le_of_ble_eq_true rfl, Nat.le_of_ble_eq_true rfl⟩) hS2 (fun q _ h => zAin X hS2 q h) (zAin X hS2) (fun p7 u7 t7 H7 locs7 ht7 hv7 hw7 hB7 hz7 hk7 hS7 => ?_)
      have hZ7 := zBack X ht7 hB7
      subst hw7
      cases hf
      exact W.lret hx hb hr (fun t ht hW => ⟨⟨_, (), rfl, rfl, by rw [ht]; exact hZ7, va_K.moved hW.alike hK⟩, hS7.F ht⟩) hS7.2.2 (D_173 W_prog_1_method_13_code_64 12 rfl rfl) hlk
    replace hf := gneg hf h5
    by_cases h8 : l4 = 1
    · replace hf := gpos hf h8
      refine lv_tableIn (off := 57) (tgt := 77) hx hb d_1_13_20 (by rw [iI_to g4, h8]; decide) (by rw [iI_to g4, h8]; decide) (by rw [iI_to g4, h8]; rfl) (by decide) ?_
      refine zaload hx hb (D_25 W_prog_1_method_13_code_64 13 rfl rfl) (lv_at hl 0 rfl) ?_
      obtain ⟨g9, hf⟩ := gif hf
      refine zunrf g9.1 ?_
      refine zget (ci := 1) (C := RX1) (T := TX1) (v := .long (lI (F2 1 r2 0))) (k := 0) hx hb hts inW_1 hown hK hZ2 g9.1 g9.2 rfl (by decide) k_2_23 rfl (D_180 W_prog_1_method_13_code_64 15 rfl rfl rfl) ?_
      obtain ⟨r10, F10, B10, hc10, hf⟩ := gbind hf
      refine va_calll (va_runS (As := [.long (lI (F2 1 r2 0))]) (rest := []) ⟨hx, hb, hml, hown, hts⟩ (c_S_below (l := l) hc10) (va_cwS 1 hts (gdS k_6_192 k_6_193 k_1_1 k_6_194) rfl rfl rfl (by decide +kernel) ⟨Nat.le_of_ble_eq_true rfl, Nat.le_of_ble_eq_true rfl⟩) (zPS X hZ2 hS2 [.long (lI (F2 1 r2 0))]) rfl rfl hl.1 rfl (lv_room (Nat.le_of_ble_eq_true rfl)) (D_184 W_prog_1_method_13_code_64 18 rfl rfl rfl) ⟨Nat.le_of_ble_eq_true rfl, Nat.le_of_ble_eq_true rfl⟩) hS2 (fun q _ h => zAin X hS2 q h) (zAin X hS2) (fun p10 u10 t10 H10 locs10 ht10 hv10 hw10 hB10 hz10 hk10 hS10 => ?_)
      have hZ10 := zBack X ht10 hB10
      subst hw10
      cases hf
      exact W.lret hx hb hr (fun t ht hW => ⟨⟨_, (), rfl, rfl, by rw [ht]; exact hZ10, va_K.moved hW.alike hK⟩, hS10.F ht⟩) hS10.2.2 (D_173 W_prog_1_method_13_code_64 21 rfl rfl) hlk
    replace hf := gneg hf h8
    by_cases h11 : l4 = 2
    · replace hf := gpos hf h11
      refine lv_tableIn (off := 66) (tgt := 86) hx hb d_1_13_20 (by rw [iI_to g4, h11]; decide) (by rw [iI_to g4, h11]; decide) (by rw [iI_to g4, h11]; rfl) (by decide) ?_
      refine zaload hx hb (D_25 W_prog_1_method_13_code_64 22 rfl rfl) (lv_at hl 0 rfl) ?_
      obtain ⟨g12, hf⟩ := gif hf
      refine zunrf g12.1 ?_
      refine zget (ci := 1) (C := RX1) (T := TX1) (v := .long (lI (F2 1 r2 1))) (k := 1) hx hb hts inW_1 hown hK hZ2 g12.1 g12.2 rfl (by decide) k_2_26 rfl (D_180 W_prog_1_method_13_code_64 24 rfl rfl rfl) ?_
      obtain ⟨r13, F13, B13, hc13, hf⟩ := gbind hf
      refine va_calll (va_runS (As := [.long (lI (F2 1 r2 1))]) (rest := []) ⟨hx, hb, hml, hown, hts⟩ (c_S_above (l := l) hc13) (va_cwS 1 hts (gdS k_6_185 k_6_186 k_1_1 k_6_187) rfl rfl rfl (by decide +kernel) ⟨Nat.le_of_ble_eq_true rfl, Nat.le_of_ble_eq_true rfl⟩) (zPS X hZ2 hS2 [.long (lI (F2 1 r2 1))]) rfl rfl hl.1 rfl (lv_room (Nat.le_of_ble_eq_true rfl)) (D_184 W_prog_1_method_13_code_64 27 rfl rfl rfl) ⟨Nat.le_of_ble_eq_true rfl, Nat.le_of_ble_eq_true rfl⟩) hS2 (fun q _ h => zAin X hS2 q h) (zAin X hS2) (fun p13 u13 t13 H13 locs13 ht13 hv13 hw13 hB13 hz13 hk13 hS13 => ?_)
      have hZ13 := zBack X ht13 hB13
      subst hw13
      cases hf
      exact W.lret hx hb hr (fun t ht hW => ⟨⟨_, (), rfl, rfl, by rw [ht]; exact hZ13, va_K.moved hW.alike hK⟩, hS13.F ht⟩) hS13.2.2 (D_173 W_prog_1_method_13_code_64 30 rfl rfl) hlk
    replace hf := gneg hf h11
    by_cases h14 : l4 = 3
    · replace hf := gpos hf h14
      refine lv_tableIn (off := 75) (tgt := 95) hx hb d_1_13_20 (by rw [iI_to g4, h14]; decide) (by rw [iI_to g4, h14]; decide) (by rw [iI_to g4, h14]; rfl) (by decide) ?_
      refine zaload hx hb (D_25 W_prog_1_method_13_code_64 31 rfl rfl) (lv_at hl 0 rfl) ?_
      obtain ⟨g15, hf⟩ := gif hf
      refine zunrf g15.1 ?_
      refine zget (ci := 1) (C := RX1) (T := TX1) (v := .long (lI (F2 1 r2 1))) (k := 1) hx hb hts inW_1 hown hK hZ2 g15.1 g15.2 rfl (by decide) k_2_26 rfl (D_180 W_prog_1_method_13_code_96 1 rfl rfl rfl) ?_
      obtain ⟨r16, F16, B16, hc16, hf⟩ := gbind hf
      refine va_calll (va_runS (As := [.long (lI (F2 1 r2 1))]) (rest := []) ⟨hx, hb, hml, hown, hts⟩ (c_S_below (l := l) hc16) (va_cwS 1 hts (gdS k_6_192 k_6_193 k_1_1 k_6_194) rfl rfl rfl (by decide +kernel) ⟨Nat.le_of_ble_eq_true rfl, Nat.le_of_ble_eq_true rfl⟩) (zPS X hZ2 hS2 [.long (lI (F2 1 r2 1))]) rfl rfl hl.1 rfl (lv_room (Nat.le_of_ble_eq_true rfl)) (D_184 W_prog_1_method_13_code_96 4 rfl rfl rfl) ⟨Nat.le_of_ble_eq_true rfl, Nat.le_of_ble_eq_true rfl⟩) hS2 (fun q _ h => zAin X hS2 q h) (zAin X hS2) (fun p16 u16 t16 H16 locs16 ht16 hv16 hw16 hB16 hz16 hk16 hS16 => ?_)
      have hZ16 := zBack X ht16 hB16
      subst hw16
      cases hf
      exact W.lret hx hb hr (fun t ht hW => ⟨⟨_, (), rfl, rfl, by rw [ht]; exact hZ16, va_K.moved hW.alike hK⟩, hS16.F ht⟩) hS16.2.2 (D_173 W_prog_1_method_13_code_96 7 rfl rfl) hlk
    replace hf := gneg hf h14
    by_cases h17 : l4 = 4
    · replace hf := gpos hf h17
      refine lv_tableIn (off := 84) (tgt := 104) hx hb d_1_13_20 (by rw [iI_to g4, h17]; decide) (by rw [iI_to g4, h17]; decide) (by rw [iI_to g4, h17]; rfl) (by decide) ?_
      refine zaload hx hb (D_25 W_prog_1_method_13_code_96 8 rfl rfl) (lv_at hl 0 rfl) ?_
      obtain ⟨g18, hf⟩ := gif hf
      refine zunrf g18.1 ?_
      refine zget (ci := 1) (C := RX1) (T := TX1) (v := .int (iI (F2 1 r2 10))) (k := 10) hx hb hts inW_1 hown hK hZ2 g18.1 g18.2 rfl (by decide) k_2_52 rfl (D_180 W_prog_1_method_13_code_96 10 rfl rfl rfl) ?_
      obtain ⟨g19, hf⟩ := gif hf
      refine zi2l hx hb g19 (D_133 W_prog_1_method_13_code_96 13 rfl rfl) ?_
      cases hf
      exact W.lret hx hb hr (fun t ht hW => ⟨⟨_, (), rfl, rfl, by rw [ht]; exact hZ2, va_K.moved hW.alike hK⟩, hS2.F ht⟩) hS2.2.2 (D_173 W_prog_1_method_13_code_96 14 rfl rfl) hlk
    replace hf := gneg hf h17
    by_cases h20 : l4 = 5
    · replace hf := gpos hf h20
      refine lv_tableIn (off := 91) (tgt := 111) hx hb d_1_13_20 (by rw [iI_to g4, h20]; decide) (by rw [iI_to g4, h20]; decide) (by rw [iI_to g4, h20]; rfl) (by decide) ?_
      refine zaload hx hb (D_25 W_prog_1_method_13_code_96 15 rfl rfl) (lv_at hl 0 rfl) ?_
      obtain ⟨g21, hf⟩ := gif hf
      refine zunrf g21.1 ?_
      refine zget (ci := 1) (C := RX1) (T := TX1) (v := .int (iI (F2 1 r2 7))) (k := 7) hx hb hts inW_1 hown hK hZ2 g21.1 g21.2 rfl (by decide) k_2_40 rfl (D_180 W_prog_1_method_13_code_96 17 rfl rfl rfl) ?_
      obtain ⟨g22, hf⟩ := gif hf
      refine zi2l hx hb g22 (D_133 W_prog_1_method_13_code_96 20 rfl rfl) ?_
      cases hf
      exact W.lret hx hb hr (fun t ht hW => ⟨⟨_, (), rfl, rfl, by rw [ht]; exact hZ2, va_K.moved hW.alike hK⟩, hS2.F ht⟩) hS2.2.2 (D_173 W_prog_1_method_13_code_96 21 rfl rfl) hlk
    replace hf := gneg hf h20
    by_cases h23 : l4 = 6
    · replace hf := gpos hf h23
      refine lv_tableIn (off := 98) (tgt := 118) hx hb d_1_13_20 (by rw [iI_to g4, h23]; decide) (by rw [iI_to g4, h23]; decide) (by rw [iI_to g4, h23]; rfl) (by decide) ?_
      refine zaload hx hb (D_25 W_prog_1_method_13_code_96 22 rfl rfl) (lv_at hl 0 rfl) ?_
      obtain ⟨g24, hf⟩ := gif hf
      refine zunrf g24.1 ?_
      refine zget (ci := 1) (C := RX1) (T := TX1) (v := .int (iI (F2 1 r2 8))) (k := 8) hx hb hts inW_1 hown hK hZ2 g24.1 g24.2 rfl (by decide) k_2_43 rfl (D_180 W_prog_1_method_13_code_96 24 rfl rfl rfl) ?_
      obtain ⟨g25, hf⟩ := gif hf
      refine zi2l hx hb g25 (D_133 W_prog_1_method_13_code_96 27 rfl rfl) ?_
      cases hf
      exact W.lret hx hb hr (fun t ht hW => ⟨⟨_, (), rfl, rfl, by rw [ht]; exact hZ2, va_K.moved hW.alike hK⟩, hS2.F ht⟩) hS2.2.2 (D_173 W_prog_1_method_13_code_96 28 rfl rfl) hlk
    replace hf := gneg hf h23
    by_cases h26 : l4 = 7
    · replace hf := gpos hf h26
      refine lv_tableIn (off := 105) (tgt := 125) hx hb d_1_13_20 (by rw [iI_to g4, h26]; decide) (by rw [iI_to g4, h26]; decide) (by rw [iI_to g4, h26]; rfl) (by decide) ?_
      refine zaload hx hb (D_25 W_prog_1_method_13_code_96 29 rfl rfl) (lv_at hl 0 rfl) ?_
      obtain ⟨g27, hf⟩ := gif hf
      refine zunrf g27.1 ?_
      refine zget (ci := 1) (C := RX1) (T := TX1) (v := .int (iI (F2 1 r2 9))) (k := 9) hx hb hts inW_1 hown hK hZ2 g27.1 g27.2 rfl (by decide) k_2_46 rfl (D_180 W_prog_1_method_13_code_96 31 rfl rfl rfl) ?_
      obtain ⟨g28, hf⟩ := gif hf
      refine zi2l hx hb g28 (D_133 W_prog_1_method_13_code_128 2 rfl rfl) ?_
      cases hf
      exact W.lret hx hb hr (fun t ht hW => ⟨⟨_, (), rfl, rfl, by rw [ht]; exact hZ2, va_K.moved hW.alike hK⟩, hS2.F ht⟩) hS2.2.2 (D_173 W_prog_1_method_13_code_128 3 rfl rfl) hlk
    replace hf := gneg hf h26
    refine lv_tableOut (tgt := 132) hx hb d_1_13_20 (by rw [iI_to g4]; omega) (by decide) ?_
    refine lv_ldc2 hx hb hown (hts _ k_6_184) (D_20 W_prog_1_method_13_code_128 4 rfl rfl rfl) ?_
    refine W.eq (g2 := F0 m 135 ls [.long (lI (-1))]) rfl ?_
    cases hf
    exact W.lret hx hb hr (fun t ht hW => ⟨⟨_, (), rfl, rfl, by rw [ht]; exact hZ2, va_K.moved hW.alike hK⟩, hS2.F ht⟩) hS2.2.2 (D_173 W_prog_1_method_13_code_128 7 rfl rfl) hlk
  · replace hf := gpos hf h3
    refine lv_ldc2 hx hb hown (hts _ k_6_184) (D_20 W_prog_1_method_13_code_0 14 rfl rfl rfl) ?_
    refine W.eq (g2 := F0 m 17 ls [.long (lI (-1))]) rfl ?_
    cases hf
    exact W.lret hx hb hr (fun t ht hW => ⟨⟨_, (), rfl, rfl, by rw [ht]; exact hZ2, va_K.moved hW.alike hK⟩, hS2.F ht⟩) hS2.2.2 (D_173 W_prog_1_method_13_code_0 17 rfl rfl) hlk

abbrev Q_Layout_addColumn (K : zK) (D : va_G) (ca : Nat → ClassId) (ad : Nat → Int → Nat → Nat) (L : List Nat) (r : Int) (F : zF) (B : zB) (A : Nat → Prop) : Array Value → State → Outcome → State → Prop := va_Qi (S := Unit) (fun p _ => p = iI r) (fun _ => zPo D ca ad lnC K.2 L F B A) A
def f_Layout_addColumn_136 (rec34 : Int → Int → Int → Int → Int → Int → Int → zF → zB → zO) (K : zK) (l7 : Int) (l6 : Int) (l5 : Int) (l3 : Int) (l0 : Int) (l1 : Int) (l2 : Int) (F : zF) (B : zB) : zO := rec34 (l7 + 1) l6 l5 l3 l0 l1 l2 F B
set_option maxHeartbeats 4000000 in
set_option maxRecDepth 100000 in
theorem b_Layout_addColumn_136 {D : va_G} {ca : Nat → ClassId} {ad : Nat → Int → Nat → Nat} {L : List Nat} {aS vS : Nat → Nat} {A : Nat → Prop} {p : Program} {l : Launch} {e : Env} {s : State} {m : MethodId} {args : Array Value} {below : List Frame} {meth : Method} {c : Code} {K : zK} {r : Int} {F9 : zF} {B9 : zB} (X : zX D ca L aS vS A p s m args meth c prog_4_method_4_code 10 (Option.some Jvm.ClassFile.FieldType.boolean) "StaveHouse$Layout") {rec34 : Int → Int → Int → Int → Int → Int → Int → zF → zB → zO} (hrec34 : ∀ {l7 : Int} {l6 : Int} {l5 : Int} {l3 : Int} {l0 : Int} {l1 : Int} {l2 : Int} {F : zF} {B : zB} {H : Heap} {locs : List Loc} {ls : Array Slot}, rec34 l7 l6 l5 l3 l0 l1 l2 F B = some (r, F9, B9) → zH D ca ad lnC K.2 L F B A H → va_S A s.heap H locs → lv_has ls 10 [(7, .int (iI l7)), (6, .int (iI l6)), (5, .int (iI l5)), (3, .long (lI l3)), (0, .ref (ad 2 l0 0)), (1, .ref (ad 6 l1 0)), (2, .int (iI l2))] → W p l e ({ frames := 2, cells := 0, slots := 0, locals := 48 } : Room) s m args below meth c H locs 0 0 (MQ below (Q_Layout_addColumn K D ca ad L r F9 B9 A) args s 0 0 A) (F0 m 34 ls [])) {l7 : Int} {l6 : Int} {l5 : Int} {l3 : Int} {l0 : Int} {l1 : Int} {l2 : Int} {F : zF} {B : zB} {H : Heap} {locs : List Loc} {ls : Array Slot} (hf : f_Layout_addColumn_136 rec34 K l7 l6 l5 l3 l0 l1 l2 F B = some (r, F9, B9)) (hZ : zH D ca ad lnC K.2 L F B A H) (hS : va_S A s.heap H locs) (hl : lv_has ls 10 [(7, .int (iI l7)), (6, .int (iI l6)), (5, .int (iI l5)), (3, .long (lI l3)), (0, .ref (ad 2 l0 0)), (1, .ref (ad 6 l1 0)), (2, .int (iI l2))]) : W p l e ({ frames := 2, cells := 0, slots := 0, locals := 48 } : Room) s m args below meth c H locs 0 0 (MQ below (Q_Layout_addColumn K D ca ad L r F9 B9 A) args s 0 0 A) (F0 m 136 ls []) := by
  obtain ⟨hx, hb, hr, hml, hown, hts, hlk, hK, hA, hL, hX⟩ := id X
  replace hf : (rec34 (l7 + 1) l6 l5 l3 l0 l1 l2 F B) = some (r, F9, B9) := hf
  refine lv_iinc (v := iI (l7 + 1)) (lv' := [(7, .int (iI (l7 + 1))), (6, .int (iI l6)), (5, .int (iI l5)), (3, .long (lI l3)), (0, .ref (ad 2 l0 0)), (1, .ref (ad 6 l1 0)), (2, .int (iI l2))]) hx hb d_4_4_136 hl (k := 0) rfl (iI_add _ 1) (by decide) rfl (fun ls hl => ?_)
  refine lv_goto (tgt := 34) hx hb (D_167 W_prog_4_method_4_code_128 11 rfl rfl rfl) (by decide) ?_
  exact hrec34 hf hZ hS (lv_sub hl [0, 1, 2, 3, 4, 5, 6] rfl)

def f_Layout_addColumn_106 (rec34 : Int → Int → Int → Int → Int → Int → Int → zF → zB → zO) (K : zK) (l9 : Int) (l8 : Int) (l7 : Int) (l6 : Int) (l3 : Int) (l0 : Int) (l1 : Int) (l2 : Int) (s0 : Int) (F : zF) (B : zB) : zO := if 0 ≤ l8 ∧ l8 < K.2 4 then if 0 ≤ l9 ∧ l9 < 800 then if r32 l6 then if r32 (B 4 l8 365 l9) then if 0 ≤ l0 ∧ l0 < K.2 2 then if 0 ≤ l7 ∧ l7 < 4 then f_Layout_addColumn_136 rec34 K l7 (zmax l6 (B 4 l8 365 l9)) s0 l3 l0 l1 l2 F (zup4 B 2 l0 12 l7 ((B 2 l0 12 l7) + 1)) else none else none else none else none else none else none
set_option maxHeartbeats 4000000 in
set_option maxRecDepth 100000 in
theorem b_Layout_addColumn_106 {D : va_G} {ca : Nat → ClassId} {ad : Nat → Int → Nat → Nat} {L : List Nat} {aS vS : Nat → Nat} {A : Nat → Prop} {p : Program} {l : Launch} {e : Env} {s : State} {m : MethodId} {args : Array Value} {below : List Frame} {meth : Method} {c : Code} {K : zK} {r : Int} {F9 : zF} {B9 : zB} (X : zX D ca L aS vS A p s m args meth c prog_4_method_4_code 10 (Option.some Jvm.ClassFile.FieldType.boolean) "StaveHouse$Layout") {rec34 : Int → Int → Int → Int → Int → Int → Int → zF → zB → zO} (hrec34 : ∀ {l7 : Int} {l6 : Int} {l5 : Int} {l3 : Int} {l0 : Int} {l1 : Int} {l2 : Int} {F : zF} {B : zB} {H : Heap} {locs : List Loc} {ls : Array Slot}, rec34 l7 l6 l5 l3 l0 l1 l2 F B = some (r, F9, B9) → zH D ca ad lnC K.2 L F B A H → va_S A s.heap H locs → lv_has ls 10 [(7, .int (iI l7)), (6, .int (iI l6)), (5, .int (iI l5)), (3, .long (lI l3)), (0, .ref (ad 2 l0 0)), (1, .ref (ad 6 l1 0)), (2, .int (iI l2))] → W p l e ({ frames := 2, cells := 0, slots := 0, locals := 48 } : Room) s m args below meth c H locs 0 0 (MQ below (Q_Layout_addColumn K D ca ad L r F9 B9 A) args s 0 0 A) (F0 m 34 ls [])) {l9 : Int} {l8 : Int} {l7 : Int} {l6 : Int} {l3 : Int} {l0 : Int} {l1 : Int} {l2 : Int} {s0 : Int} {F : zF} {B : zB} {H : Heap} {locs : List Loc} {ls : Array Slot} (hf : f_Layout_addColumn_106 rec34 K l9 l8 l7 l6 l3 l0 l1 l2 s0 F B = some (r, F9, B9)) (hZ : zH D ca ad lnC K.2 L F B A H) (hS : va_S A s.heap H locs) (hl : lv_has ls 10 [(9, .int (iI l9)), (8, va_rf (zrf ad 4 l8)), (7, .int (iI l7)), (6, .int (iI l6)), (3, .long (lI l3)), (0, .ref (ad 2 l0 0)), (1, .ref (ad 6 l1 0)), (2, .int (iI l2))]) : W p l e ({ frames := 2, cells := 0, slots := 0, locals := 48 } : Room) s m args below meth c H locs 0 0 (MQ below (Q_Layout_addColumn K D ca ad L r F9 B9 A) args s 0 0 A) (F0 m 106 ls [.int (iI s0)]) := by
  obtain ⟨hx, hb, hr, hml, hown, hts, hlk, hK, hA, hL, hX⟩ := id X
  replace hf : (if 0 ≤ l8 ∧ l8 < K.2 4 then if 0 ≤ l9 ∧ l9 < 800 then if r32 l6 then if r32 (B 4 l8 365 l9) then if 0 ≤ l0 ∧ l0 < K.2 2 then if 0 ≤ l7 ∧ l7 < 4 then f_Layout_addColumn_136 rec34 K l7 (zmax l6 (B 4 l8 365 l9)) s0 l3 l0 l1 l2 F (zup4 B 2 l0 12 l7 ((B 2 l0 12 l7) + 1)) else none else none else none else none else none else none) = some (r, F9, B9) := hf
  refine lv_istore (lv' := [(5, .int (iI s0)), (9, .int (iI l9)), (8, va_rf (zrf ad 4 l8)), (7, .int (iI l7)), (6, .int (iI l6)), (3, .long (lI l3)), (0, .ref (ad 2 l0 0)), (1, .ref (ad 6 l1 0)), (2, .int (iI l2))]) hx hb (D_54 W_prog_4_method_4_code_96 10 rfl rfl) hl (by decide) rfl (fun ls hl => ?_)
  refine lv_iload hx hb (D_21 W_prog_4_method_4_code_96 12 rfl rfl) (lv_at hl 4 rfl) ?_
  refine zaload hx hb (D_25 W_prog_4_method_4_code_96 14 rfl rfl) (lv_at hl 2 rfl) ?_
  obtain ⟨g27, hf⟩ := gif hf
  refine zunrf g27.1 ?_
  refine zget (ci := 4) (C := RX4) (T := TX4) (v := .ref (ad 4 l8 (8 + 1))) (k := 8) hx hb hts inW_4 hown hK hZ g27.1 g27.2 rfl (by decide) k_4_143 rfl (D_180 W_prog_4_method_4_code_96 16 rfl rfl rfl) ?_
  refine lv_iconst (v := iI 5) hx hb (D_8 W_prog_4_method_4_code_96 19 rfl rfl) rfl ?_
  refine zaldQ (t := 0) (ci := 4) (k := 8) hx hb hK rfl hZ g27.1 g27.2 rfl (Nat.le_of_ble_eq_true rfl) (by decide) (by decide) (D_50 W_prog_4_method_4_code_96 20 rfl rfl) ?_
  refine W.eq (g2 := F0 m 117 ls [.ref (ad 4 l8 (365 + 1)), .int (iI l6)]) rfl ?_
  refine lv_iload hx hb (D_21 W_prog_4_method_4_code_96 21 rfl rfl) (lv_at hl 1 rfl) ?_
  obtain ⟨g28, hf⟩ := gif hf
  refine zald (ci := 4) (k := 365) hx hb hK rfl hZ g27.1 g27.2 rfl (Nat.le_of_ble_eq_true rfl) g28.1 g28.2 (D_46 W_prog_4_method_4_code_96 23 rfl rfl) ?_
  obtain ⟨g29, hf⟩ := gif hf
  obtain ⟨g30, hf⟩ := gif hf
  refine va_mmax hx hb (by rw [hml]; exact hl.1.symm) hown (hts _ k_7_38) (hts _ k_1_39) (hts _ k_1_3) (hts _ k_1_40) (Nat.le_of_ble_eq_true rfl) (Nat.le_of_ble_eq_true rfl) (Nat.le_of_ble_eq_true rfl) (Nat.le_of_ble_eq_true rfl) (D_184 W_prog_4_method_4_code_96 24 rfl rfl rfl) ?_
  rw [zmax_e g29 g30]
  refine lv_istore (lv' := [(6, .int (iI (zmax l6 (B 4 l8 365 l9)))), (5, .int (iI s0)), (9, .int (iI l9)), (8, va_rf (zrf ad 4 l8)), (7, .int (iI l7)), (3, .long (lI l3)), (0, .ref (ad 2 l0 0)), (1, .ref (ad 6 l1 0)), (2, .int (iI l2))]) hx hb (D_54 W_prog_4_method_4_code_96 27 rfl rfl) hl (by decide) rfl (fun ls hl => ?_)
  refine lv_aload_n hx hb (D_42 W_prog_4_method_4_code_96 29 rfl rfl) rfl (lv_at hl 6 rfl) ?_
  obtain ⟨g31, hf⟩ := gif hf
  refine zget (ci := 2) (C := RX2) (T := TX2) (v := .ref (ad 2 l0 (12 + 1))) (k := 12) hx hb hts inW_2 hown hK hZ g31.1 g31.2 rfl (by decide) k_6_229 rfl (D_180 W_prog_4_method_4_code_96 30 rfl rfl rfl) ?_
  refine lv_iload hx hb (D_21 W_prog_4_method_4_code_128 1 rfl rfl) (lv_at hl 4 rfl) ?_
  refine lv_dup2_11 hx hb (D_92 W_prog_4_method_4_code_128 3 rfl rfl) rfl rfl ?_
  obtain ⟨g33, hf⟩ := gif hf
  refine zald (ci := 2) (k := 12) hx hb hK rfl hZ g31.1 g31.2 rfl (Nat.le_of_ble_eq_true rfl) g33.1 g33.2 (D_46 W_prog_4_method_4_code_128 4 rfl rfl) ?_
  refine lv_iconst (v := iI 1) hx hb (D_4 W_prog_4_method_4_code_128 5 rfl rfl) rfl ?_
  refine zadd hx hb (D_96 W_prog_4_method_4_code_128 6 rfl rfl) ?_
  refine zast (ci := 2) (k := 12) hx hb hK rfl hZ hS g31.1 g31.2 rfl (Nat.le_of_ble_eq_true rfl) g33.1 g33.2 (D_79 W_prog_4_method_4_code_128 7 rfl rfl) (fun H34 locs34 hZ34 hS34 => ?_)
  exact b_Layout_addColumn_136 X hrec34 hf hZ34 hS34 (lv_sub hl [4, 0, 1, 5, 6, 7, 8] rfl)

def f_Layout_addColumn_34 (K : zK) : Nat → Int → Int → Int → Int → Int → Int → Int → zF → zB → zO
  | 0, _, _, _, _, _, _, _, _, _ => none
  | n + 1, l7, l6, l5, l3, l0, l1, l2, F, B => if 0 ≤ l1 ∧ l1 < K.2 6 then if r32 l7 then if r32 (F 6 l1 1) then (if (F 6 l1 1) ≤ l7 then if 0 ≤ l0 ∧ l0 < K.2 2 then if 0 ≤ (F 2 l0 4) ∧ (F 2 l0 4) < 3200 then some (1, F, (zup4 (zup4 B 2 l0 1 (F 2 l0 4) l3) 2 l0 2 (F 2 l0 4) ((8 + l5) + (3 * l6)))) else none else none else if 0 ≤ l7 ∧ l7 < 4 then if 0 ≤ l0 ∧ l0 < K.2 2 then if 0 ≤ (B 6 l1 0 l7) ∧ (B 6 l1 0 l7) < K.2 4 then zbind (f_Layout_beginsIn K (B 6 l1 0 l7) (B 2 l0 12 l7) l2 F B) (fun r18 F18 B18 => if r32 r18 then (if r18 = 0 then f_Layout_addColumn_136 (f_Layout_addColumn_34 K n) K l7 l6 l5 l3 l0 l1 l2 F18 B18 else if 0 ≤ (B 2 l0 12 l7) ∧ (B 2 l0 12 l7) < 800 then if r64 (B18 4 (B 6 l1 0 l7) 9 (B 2 l0 12 l7)) then if r64 l3 then (if (zcmp (B18 4 (B 6 l1 0 l7) 9 (B 2 l0 12 l7)) l3) = 0 then if r32 (B18 4 (B 6 l1 0 l7) 367 (B 2 l0 12 l7)) then (if (B18 4 (B 6 l1 0 l7) 367 (B 2 l0 12 l7)) = 0 then f_Layout_addColumn_106 (f_Layout_addColumn_34 K n) K (B 2 l0 12 l7) (B 6 l1 0 l7) l7 l6 l3 l0 l1 l2 l5 F18 B18 else f_Layout_addColumn_106 (f_Layout_addColumn_34 K n) K (B 2 l0 12 l7) (B 6 l1 0 l7) l7 l6 l3 l0 l1 l2 6 F18 B18) else none else f_Layout_addColumn_136 (f_Layout_addColumn_34 K n) K l7 l6 l5 l3 l0 l1 l2 F18 B18) else none else none else none) else none) else none else none else none) else none else none else none
set_option maxHeartbeats 4000000 in
set_option maxRecDepth 100000 in
theorem b_Layout_addColumn_34 {D : va_G} {ca : Nat → ClassId} {ad : Nat → Int → Nat → Nat} {L : List Nat} {aS vS : Nat → Nat} {A : Nat → Prop} {p : Program} {l : Launch} {e : Env} {s : State} {m : MethodId} {args : Array Value} {below : List Frame} {meth : Method} {c : Code} {K : zK} {r : Int} {F9 : zF} {B9 : zB} (X : zX D ca L aS vS A p s m args meth c prog_4_method_4_code 10 (Option.some Jvm.ClassFile.FieldType.boolean) "StaveHouse$Layout") : ∀ {n : Nat} {l7 : Int} {l6 : Int} {l5 : Int} {l3 : Int} {l0 : Int} {l1 : Int} {l2 : Int} {F : zF} {B : zB} {H : Heap} {locs : List Loc} {ls : Array Slot}, f_Layout_addColumn_34 K n l7 l6 l5 l3 l0 l1 l2 F B = some (r, F9, B9) → zH D ca ad lnC K.2 L F B A H → va_S A s.heap H locs → lv_has ls 10 [(7, .int (iI l7)), (6, .int (iI l6)), (5, .int (iI l5)), (3, .long (lI l3)), (0, .ref (ad 2 l0 0)), (1, .ref (ad 6 l1 0)), (2, .int (iI l2))] → W p l e ({ frames := 2, cells := 0, slots := 0, locals := 48 } : Room) s m args below meth c H locs 0 0 (MQ below (Q_Layout_addColumn K D ca ad L r F9 B9 A) args s 0 0 A) (F0 m 34 ls []) := by
  obtain ⟨hx, hb, hr, hml, hown, hts, hlk, hK, hA, hL, hX⟩ := id X
  intro n
  induction n with
  | zero =>
    intros
    rename_i hf _ _ _
    cases hf
  | succ n ih =>
    intro l7 l6 l5 l3 l0 l1 l2 F B H locs ls hf hZ hS hl
    replace hf : (if 0 ≤ l1 ∧ l1 < K.2 6 then if r32 l7 then if r32 (F 6 l1 1) then (if (F 6 l1 1) ≤ l7 then if 0 ≤ l0 ∧ l0 < K.2 2 then if 0 ≤ (F 2 l0 4) ∧ (F 2 l0 4) < 3200 then some (1, F, (zup4 (zup4 B 2 l0 1 (F 2 l0 4) l3) 2 l0 2 (F 2 l0 4) ((8 + l5) + (3 * l6)))) else none else none else if 0 ≤ l7 ∧ l7 < 4 then if 0 ≤ l0 ∧ l0 < K.2 2 then if 0 ≤ (B 6 l1 0 l7) ∧ (B 6 l1 0 l7) < K.2 4 then zbind (f_Layout_beginsIn K (B 6 l1 0 l7) (B 2 l0 12 l7) l2 F B) (fun r18 F18 B18 => if r32 r18 then (if r18 = 0 then f_Layout_addColumn_136 (f_Layout_addColumn_34 K n) K l7 l6 l5 l3 l0 l1 l2 F18 B18 else if 0 ≤ (B 2 l0 12 l7) ∧ (B 2 l0 12 l7) < 800 then if r64 (B18 4 (B 6 l1 0 l7) 9 (B 2 l0 12 l7)) then if r64 l3 then (if (zcmp (B18 4 (B 6 l1 0 l7) 9 (B 2 l0 12 l7)) l3) = 0 then if r32 (B18 4 (B 6 l1 0 l7) 367 (B 2 l0 12 l7)) then (if (B18 4 (B 6 l1 0 l7) 367 (B 2 l0 12 l7)) = 0 then f_Layout_addColumn_106 (f_Layout_addColumn_34 K n) K (B 2 l0 12 l7) (B 6 l1 0 l7) l7 l6 l3 l0 l1 l2 l5 F18 B18 else f_Layout_addColumn_106 (f_Layout_addColumn_34 K n) K (B 2 l0 12 l7) (B 6 l1 0 l7) l7 l6 l3 l0 l1 l2 6 F18 B18) else none else f_Layout_addColumn_136 (f_Layout_addColumn_34 K n) K l7 l6 l5 l3 l0 l1 l2 F18 B18) else none else none else none) else none) else none else none else none) else none else none else none) = some (r, F9, B9) := hf
    refine lv_iload hx hb (D_21 W_prog_4_method_4_code_32 2 rfl rfl) (lv_at hl 0 rfl) ?_
    refine lv_aload_n hx hb (D_43 W_prog_4_method_4_code_32 4 rfl rfl) rfl (lv_at hl 5 rfl) ?_
    obtain ⟨g7, hf⟩ := gif hf
    refine zget (ci := 6) (C := RX6) (T := TX6) (v := .int (iI (F 6 l1 1))) (k := 1) hx hb hts inW_6 hown hK hZ g7.1 g7.2 rfl (by decide) k_2_193 rfl (D_180 W_prog_4_method_4_code_32 5 rfl rfl rfl) ?_
    obtain ⟨g8, hf⟩ := gif hf
    obtain ⟨g9, hf⟩ := gif hf
    refine zge (tgt := 142) hx hb g8 g9 (D_162 W_prog_4_method_4_code_32 8 rfl rfl rfl) (by decide) (fun h10 => ?_) (fun h10 => ?_)
    · replace hf := gpos hf h10
      refine lv_aload_n hx hb (D_42 W_prog_4_method_4_code_128 14 rfl rfl) rfl (lv_at hl 4 rfl) ?_
      obtain ⟨g11, hf⟩ := gif hf
      refine zget (ci := 2) (C := RX2) (T := TX2) (v := .ref (ad 2 l0 (1 + 1))) (k := 1) hx hb hts inW_2 hown hK hZ g11.1 g11.2 rfl (by decide) k_6_218 rfl (D_180 W_prog_4_method_4_code_128 15 rfl rfl rfl) ?_
      refine lv_aload_n hx hb (D_42 W_prog_4_method_4_code_128 18 rfl rfl) rfl (lv_at hl 4 rfl) ?_
      refine zget (ci := 2) (C := RX2) (T := TX2) (v := .int (iI (F 2 l0 4))) (k := 4) hx hb hts inW_2 hown hK hZ g11.1 g11.2 rfl (by decide) k_6_221 rfl (D_180 W_prog_4_method_4_code_128 19 rfl rfl rfl) ?_
      refine lv_lload_n hx hb (D_33 W_prog_4_method_4_code_128 22 rfl rfl) rfl (lv_at hl 3 rfl) ?_
      obtain ⟨g12, hf⟩ := gif hf
      refine zlast (ci := 2) (k := 1) hx hb hK rfl hZ hS g11.1 g11.2 rfl (Nat.le_of_ble_eq_true rfl) g12.1 g12.2 (D_80 W_prog_4_method_4_code_128 23 rfl rfl) (fun H13 locs13 hZ13 hS13 => ?_)
      refine lv_aload_n hx hb (D_42 W_prog_4_method_4_code_128 24 rfl rfl) rfl (lv_at hl 4 rfl) ?_
      refine zget (ci := 2) (C := RX2) (T := TX2) (v := .ref (ad 2 l0 (2 + 1))) (k := 2) hx hb hts inW_2 hown hK hZ13 g11.1 g11.2 rfl (by decide) k_6_219 rfl (D_180 W_prog_4_method_4_code_128 25 rfl rfl rfl) ?_
      refine lv_aload_n hx hb (D_42 W_prog_4_method_4_code_128 28 rfl rfl) rfl (lv_at hl 4 rfl) ?_
      refine zget (ci := 2) (C := RX2) (T := TX2) (v := .int (iI (F 2 l0 4))) (k := 4) hx hb hts inW_2 hown hK hZ13 g11.1 g11.2 rfl (by decide) k_6_221 rfl (D_180 W_prog_4_method_4_code_128 29 rfl rfl rfl) ?_
      refine lv_bipush (v := iI 8) hx hb (D_16 W_prog_4_method_4_code_160 0 rfl rfl rfl) (by decide) ?_
      refine lv_iload hx hb (D_21 W_prog_4_method_4_code_160 2 rfl rfl) (lv_at hl 2 rfl) ?_
      refine zadd hx hb (D_96 W_prog_4_method_4_code_160 4 rfl rfl) ?_
      refine lv_iconst (v := iI 3) hx hb (D_6 W_prog_4_method_4_code_160 5 rfl rfl) rfl ?_
      refine lv_iload hx hb (D_21 W_prog_4_method_4_code_160 6 rfl rfl) (lv_at hl 1 rfl) ?_
      refine zmul hx hb (D_104 W_prog_4_method_4_code_160 8 rfl rfl) ?_
      refine zadd hx hb (D_96 W_prog_4_method_4_code_160 9 rfl rfl) ?_
      refine zast (ci := 2) (k := 2) hx hb hK rfl hZ13 hS13 g11.1 g11.2 rfl (Nat.le_of_ble_eq_true rfl) g12.1 g12.2 (D_79 W_prog_4_method_4_code_160 10 rfl rfl) (fun H14 locs14 hZ14 hS14 => ?_)
      refine lv_iconst (v := iI 1) hx hb (D_4 W_prog_4_method_4_code_160 11 rfl rfl) rfl ?_
      cases hf
      exact W.zret hx hb hr rfl (fun t ht hW => ⟨⟨_, (), rfl, rfl, by rw [ht]; exact hZ14, va_K.moved hW.alike hK⟩, hS14.F ht⟩) hS14.2.2 (D_172 W_prog_4_method_4_code_160 12 rfl rfl) hlk
    · replace hf := gneg hf h10
      refine lv_aload_n hx hb (D_43 W_prog_4_method_4_code_32 11 rfl rfl) rfl (lv_at hl 5 rfl) ?_
      refine zget (ci := 6) (C := RX6) (T := TX6) (v := .ref (ad 6 l1 (0 + 1))) (k := 0) hx hb hts inW_6 hown hK hZ g7.1 g7.2 rfl (by decide) k_2_188 rfl (D_180 W_prog_4_method_4_code_32 12 rfl rfl rfl) ?_
      refine lv_iload hx hb (D_21 W_prog_4_method_4_code_32 15 rfl rfl) (lv_at hl 0 rfl) ?_
      obtain ⟨g15, hf⟩ := gif hf
      refine zaldR (t := 4) (x := 6) (ci := 6) (k := 0) hx hb hK rfl rfl hZ g7.1 g7.2 rfl (Nat.le_of_ble_eq_true rfl) g15.1 g15.2 (D_50 W_prog_4_method_4_code_32 17 rfl rfl) ?_
      refine zastore (lv' := [(7, .int (iI l7)), (6, .int (iI l6)), (5, .int (iI l5)), (3, .long (lI l3)), (0, .ref (ad 2 l0 0)), (1, .ref (ad 6 l1 0)), (2, .int (iI l2))]) hx hb (D_58 W_prog_4_method_4_code_32 18 rfl rfl) hl (by decide) (fun _ _ => rfl) (fun ls hl => ?_)
      refine lv_aload_n hx hb (D_42 W_prog_4_method_4_code_32 20 rfl rfl) rfl (lv_at hl 5 rfl) ?_
      obtain ⟨g16, hf⟩ := gif hf
      refine zget (ci := 2) (C := RX2) (T := TX2) (v := .ref (ad 2 l0 (12 + 1))) (k := 12) hx hb hts inW_2 hown hK hZ g16.1 g16.2 rfl (by decide) k_6_229 rfl (D_180 W_prog_4_method_4_code_32 21 rfl rfl rfl) ?_
      refine lv_iload hx hb (D_21 W_prog_4_method_4_code_32 24 rfl rfl) (lv_at hl 1 rfl) ?_
      refine zald (ci := 2) (k := 12) hx hb hK rfl hZ g16.1 g16.2 rfl (Nat.le_of_ble_eq_true rfl) g15.1 g15.2 (D_46 W_prog_4_method_4_code_32 26 rfl rfl) ?_
      refine lv_istore (lv' := [(9, .int (iI (B 2 l0 12 l7))), (8, va_rf (zrf ad 4 (B 6 l1 0 l7))), (7, .int (iI l7)), (6, .int (iI l6)), (5, .int (iI l5)), (3, .long (lI l3)), (0, .ref (ad 2 l0 0)), (1, .ref (ad 6 l1 0)), (2, .int (iI l2))]) hx hb (D_54 W_prog_4_method_4_code_32 27 rfl rfl) hl (by decide) (by cases zrf ad 4 (B 6 l1 0 l7) <;> rfl) (fun ls hl => ?_)
      refine zaload hx hb (D_25 W_prog_4_method_4_code_32 29 rfl rfl) (lv_at hl 1 rfl) ?_
      refine lv_iload hx hb (D_21 W_prog_4_method_4_code_32 31 rfl rfl) (lv_at hl 0 rfl) ?_
      refine lv_iload_n hx hb (D_28 W_prog_4_method_4_code_64 1 rfl rfl) rfl (lv_at hl 8 rfl) ?_
      obtain ⟨g17, hf⟩ := gif hf
      refine W.eq (g2 := F0 m 66 ls [.int (iI l2), .int (iI (B 2 l0 12 l7)), .ref (ad 4 (B 6 l1 0 l7) 0)]) (by rw [zrf_pos (ad := ad) (t := 4) g17.1]; try rfl) ?_
      obtain ⟨r18, F18, B18, hc18, hf⟩ := gbind hf
      refine va_calli (va_runS (As := [.ref (ad 4 (B 6 l1 0 l7) 0), .int (iI (B 2 l0 12 l7)), .int (iI l2)]) (rest := []) ⟨hx, hb, hml, hown, hts⟩ (c_Layout_beginsIn (l := l) hc18) (va_cwS 3 hts (gdS k_7_35 k_7_36 k_1_21 k_7_37) rfl rfl rfl (by decide +kernel) ⟨Nat.le_of_ble_eq_true rfl, Nat.le_of_ble_eq_true rfl⟩) (zPS X hZ hS [.ref (ad 4 (B 6 l1 0 l7) 0), .int (iI (B 2 l0 12 l7)), .int (iI l2)]) rfl rfl hl.1 rfl (lv_room (Nat.le_of_ble_eq_true rfl)) (D_184 W_prog_4_method_4_code_64 2 rfl rfl rfl) ⟨Nat.le_of_ble_eq_true rfl, Nat.le_of_ble_eq_true rfl⟩) hS (fun q _ h => zAin X hS q h) (zAin X hS) (fun p18 u18 t18 H18 locs18 ht18 hv18 hw18 hB18 hz18 hk18 hS18 => ?_)
      have hZ18 := zBack X ht18 hB18
      subst hw18
      obtain ⟨g19, hf⟩ := gif hf
      refine z0eq (tgt := 136) hx hb g19 (D_153 W_prog_4_method_4_code_64 5 rfl rfl rfl) (by decide) (fun h20 => ?_) (fun h20 => ?_)
      · replace hf := gpos hf h20
        exact b_Layout_addColumn_136 X ih hf hZ18 hS18 (lv_sub hl [2, 3, 4, 5, 6, 7, 8] rfl)
      · replace hf := gneg hf h20
        refine zaload hx hb (D_25 W_prog_4_method_4_code_64 8 rfl rfl) (lv_at hl 1 rfl) ?_
        refine zunrf g17.1 ?_
        refine zget (ci := 4) (C := RX4) (T := TX4) (v := .ref (ad 4 (B 6 l1 0 l7) (9 + 1))) (k := 9) hx hb hts inW_4 hown hK hZ18 g17.1 g17.2 rfl (by decide) k_4_146 rfl (D_180 W_prog_4_method_4_code_64 10 rfl rfl rfl) ?_
        refine lv_iload hx hb (D_21 W_prog_4_method_4_code_64 13 rfl rfl) (lv_at hl 0 rfl) ?_
        obtain ⟨g21, hf⟩ := gif hf
        refine zlald (ci := 4) (k := 9) hx hb hK rfl hZ18 g17.1 g17.2 rfl (Nat.le_of_ble_eq_true rfl) g21.1 g21.2 (D_47 W_prog_4_method_4_code_64 15 rfl rfl) ?_
        refine lv_lload_n hx hb (D_33 W_prog_4_method_4_code_64 16 rfl rfl) rfl (lv_at hl 5 rfl) ?_
        obtain ⟨g22, hf⟩ := gif hf
        obtain ⟨g23, hf⟩ := gif hf
        refine zcmp_r hx hb g22 g23 (D_148 W_prog_4_method_4_code_64 17 rfl rfl) ?_
        refine z0ne (tgt := 136) hx hb zcmp_32 (D_154 W_prog_4_method_4_code_64 18 rfl rfl rfl) (by decide) (fun h24 => ?_) (fun h24 => ?_)
        · replace hf := gneg hf h24
          exact b_Layout_addColumn_136 X ih hf hZ18 hS18 (lv_sub hl [2, 3, 4, 5, 6, 7, 8] rfl)
        · replace hf := gpos hf h24
          refine zaload hx hb (D_25 W_prog_4_method_4_code_64 21 rfl rfl) (lv_at hl 1 rfl) ?_
          refine zunrf g17.1 ?_
          refine zget (ci := 4) (C := RX4) (T := TX4) (v := .ref (ad 4 (B 6 l1 0 l7) (8 + 1))) (k := 8) hx hb hts inW_4 hown hK hZ18 g17.1 g17.2 rfl (by decide) k_4_143 rfl (D_180 W_prog_4_method_4_code_64 23 rfl rfl rfl) ?_
          refine lv_bipush (v := iI 7) hx hb (D_16 W_prog_4_method_4_code_64 26 rfl rfl rfl) (by decide) ?_
          refine zaldQ (t := 0) (ci := 4) (k := 8) hx hb hK rfl hZ18 g17.1 g17.2 rfl (Nat.le_of_ble_eq_true rfl) (by decide) (by decide) (D_50 W_prog_4_method_4_code_64 28 rfl rfl) ?_
          refine W.eq (g2 := F0 m 93 ls [.ref (ad 4 (B 6 l1 0 l7) (367 + 1))]) rfl ?_
          refine lv_iload hx hb (D_21 W_prog_4_method_4_code_64 29 rfl rfl) (lv_at hl 0 rfl) ?_
          refine zald (ci := 4) (k := 367) hx hb hK rfl hZ18 g17.1 g17.2 rfl (Nat.le_of_ble_eq_true rfl) g21.1 g21.2 (D_46 W_prog_4_method_4_code_64 31 rfl rfl) ?_
          obtain ⟨g25, hf⟩ := gif hf
          refine z0eq (tgt := 104) hx hb g25 (D_153 W_prog_4_method_4_code_96 0 rfl rfl rfl) (by decide) (fun h26 => ?_) (fun h26 => ?_)
          · replace hf := gpos hf h26
            refine lv_iload hx hb (D_21 W_prog_4_method_4_code_96 8 rfl rfl) (lv_at hl 4 rfl) ?_
            exact b_Layout_addColumn_106 X ih hf hZ18 hS18 (lv_sub hl [0, 1, 2, 3, 5, 6, 7, 8] rfl)
          · replace hf := gneg hf h26
            refine lv_bipush (v := iI 6) hx hb (D_16 W_prog_4_method_4_code_96 3 rfl rfl rfl) (by decide) ?_
            refine lv_goto (tgt := 106) hx hb (D_167 W_prog_4_method_4_code_96 5 rfl rfl rfl) (by decide) ?_
            exact b_Layout_addColumn_106 X ih hf hZ18 hS18 (lv_sub hl [0, 1, 2, 3, 5, 6, 7, 8] rfl)

def f_Layout_addColumn_23 (K : zK)  (F : zF) (B : zB) : zO := some (0, F, B)
set_option maxHeartbeats 4000000 in
set_option maxRecDepth 100000 in
theorem b_Layout_addColumn_23 {D : va_G} {ca : Nat → ClassId} {ad : Nat → Int → Nat → Nat} {L : List Nat} {aS vS : Nat → Nat} {A : Nat → Prop} {p : Program} {l : Launch} {e : Env} {s : State} {m : MethodId} {args : Array Value} {below : List Frame} {meth : Method} {c : Code} {K : zK} {r : Int} {F9 : zF} {B9 : zB} (X : zX D ca L aS vS A p s m args meth c prog_4_method_4_code 10 (Option.some Jvm.ClassFile.FieldType.boolean) "StaveHouse$Layout")  {F : zF} {B : zB} {H : Heap} {locs : List Loc} {ls : Array Slot} (hf : f_Layout_addColumn_23 K  F B = some (r, F9, B9)) (hZ : zH D ca ad lnC K.2 L F B A H) (hS : va_S A s.heap H locs) (hl : lv_has ls 10 []) : W p l e ({ frames := 2, cells := 0, slots := 0, locals := 48 } : Room) s m args below meth c H locs 0 0 (MQ below (Q_Layout_addColumn K D ca ad L r F9 B9 A) args s 0 0 A) (F0 m 23 ls []) := by
  obtain ⟨hx, hb, hr, hml, hown, hts, hlk, hK, hA, hL, hX⟩ := id X
  replace hf : (some (0, F, B)) = some (r, F9, B9) := hf
  refine lv_iconst (v := iI 0) hx hb (D_3 W_prog_4_method_4_code_0 23 rfl rfl) rfl ?_
  cases hf
  exact W.zret hx hb hr rfl (fun t ht hW => ⟨⟨_, (), rfl, rfl, by rw [ht]; exact hZ, va_K.moved hW.alike hK⟩, hS.F ht⟩) hS.2.2 (D_172 W_prog_4_method_4_code_0 24 rfl rfl) hlk

def f_Layout_addColumn (K : zK) (l0 : Int) (l1 : Int) (l2 : Int) (F : zF) (B : zB) : zO := if 0 ≤ l0 ∧ l0 < K.2 2 then zbind (f_Layout_nextPlace K l0 l1 l2 F B) (fun r2 F2 B2 => if r64 r2 then (if (zcmp r2 0) < 0 then f_Layout_addColumn_23 K F2 B2 else if r32 (F2 2 l0 4) then (if (F2 2 l0 4) < 3200 then f_Layout_addColumn_34 K K.1 0 0 0 r2 l0 l1 l2 F2 B2 else f_Layout_addColumn_23 K F2 B2) else none) else none) else none
set_option maxHeartbeats 4000000 in
set_option maxRecDepth 100000 in
theorem c_Layout_addColumn {l : Launch} {D : va_G} {ca : Nat → ClassId} {ad : Nat → Int → Nat → Nat} {L : List Nat} {aS vS : Nat → Nat} {sz : Nat} {K : zK}  {l0 : Int} {l1 : Int} {l2 : Int} {F F9 : zF} {B B9 : zB} {r : Int} (hf : f_Layout_addColumn K l0 l1 l2 F B = some (r, F9, B9)) : Met l ({ cls := "StaveHouse$Layout", name := "addColumn", desc := "(LStaveHouse$Piece;I)Z" } : Jvm.MethodName) (Cond.code ({ cls := "StaveHouse$Layout", name := "addColumn", desc := "(LStaveHouse$Piece;I)Z" } : Jvm.MethodName) prog_4_method_4_code 10 (Option.some Jvm.ClassFile.FieldType.boolean) :: wAll) ({ frames := 2, cells := 0, slots := 0, locals := 48 } : Room) (va_Pc [.ref (ad 2 l0 0), .ref (ad 6 l1 0), .int (iI l2)] (zPre D ca ad lnC K.2 L aS vS F B sz)) (Q_Layout_addColumn K D ca ad L r F9 B9 (zA L sz)) 0 0 (zA L sz) := by
  refine zMet (Qc := Q_Layout_addColumn K D ca ad L r F9 B9) (lv := [(0, .ref (ad 2 l0 0)), (1, .ref (ad 6 l1 0)), (2, .int (iI l2))]) (by decide) (Nat.le_of_ble_eq_true rfl) rfl (fun A p e s m below meth c ls X hZ hS hl => ?_)
  obtain ⟨hx, hb, hr, hml, hown, hts, hlk, hK, hA, hL, hX⟩ := id X
  replace hf : (if 0 ≤ l0 ∧ l0 < K.2 2 then zbind (f_Layout_nextPlace K l0 l1 l2 F B) (fun r2 F2 B2 => if r64 r2 then (if (zcmp r2 0) < 0 then f_Layout_addColumn_23 K F2 B2 else if r32 (F2 2 l0 4) then (if (F2 2 l0 4) < 3200 then f_Layout_addColumn_34 K K.1 0 0 0 r2 l0 l1 l2 F2 B2 else f_Layout_addColumn_23 K F2 B2) else none) else none) else none) = some (r, F9, B9) := hf
  refine lv_aload_n hx hb (D_42 W_prog_4_method_4_code_0 0 rfl rfl) rfl (lv_at hl 0 rfl) ?_
  refine lv_aload_n hx hb (D_43 W_prog_4_method_4_code_0 1 rfl rfl) rfl (lv_at hl 1 rfl) ?_
  refine lv_iload_n hx hb (D_28 W_prog_4_method_4_code_0 2 rfl rfl) rfl (lv_at hl 2 rfl) ?_
  obtain ⟨g1, hf⟩ := gif hf
  obtain ⟨r2, F2, B2, hc2, hf⟩ := gbind hf
  refine va_calll (va_runV (As := [.ref (ad 6 l1 0), .int (iI l2)]) (rest := []) ⟨hx, hb, hml, hown, hts⟩ (c_Layout_nextPlace (l := l) hc2) (cwV 2 hts (gdV k_7_30 k_7_32 ks_81 k_1_21 k_7_33) rfl rfl rfl (by decide +kernel) ⟨Nat.le_of_ble_eq_true rfl, Nat.le_of_ble_eq_true rfl⟩) (zPV X hZ hS (ci := 2) g1.1 g1.2 (r := (RX2, TX2, 13)) rfl [.ref (ad 6 l1 0), .int (iI l2)]) rfl rfl hl.1 rfl (lv_room (Nat.le_of_ble_eq_true rfl)) (D_182 W_prog_4_method_4_code_0 3 rfl rfl rfl) ⟨Nat.le_of_ble_eq_true rfl, Nat.le_of_ble_eq_true rfl⟩) hS (fun q _ h => zAin X hS q h) (zAin X hS) (fun p2 u2 t2 H2 locs2 ht2 hv2 hw2 hB2 hz2 hk2 hS2 => ?_)
  have hZ2 := zBack X ht2 hB2
  subst hw2
  refine lv_lstore_n (lv' := [(3, .long (lI r2)), (0, .ref (ad 2 l0 0)), (1, .ref (ad 6 l1 0)), (2, .int (iI l2))]) hx hb (D_66 W_prog_4_method_4_code_0 6 rfl rfl) rfl hl (by decide) rfl (fun ls hl => ?_)
  refine lv_lload_n hx hb (D_33 W_prog_4_method_4_code_0 7 rfl rfl) rfl (lv_at hl 0 rfl) ?_
  refine lv_lconst (v := lI 0) hx hb (D_9 W_prog_4_method_4_code_0 8 rfl rfl) (by decide) ?_
  obtain ⟨g3, hf⟩ := gif hf
  refine zcmp_r hx hb g3 (by decide) (D_148 W_prog_4_method_4_code_0 9 rfl rfl) ?_
  refine z0lt (tgt := 23) hx hb zcmp_32 (D_155 W_prog_4_method_4_code_0 10 rfl rfl rfl) (by decide) (fun h4 => ?_) (fun h4 => ?_)
  · replace hf := gpos hf h4
    exact b_Layout_addColumn_23 X hf hZ2 hS2 (lv_sub hl [] rfl)
  · replace hf := gneg hf h4
    refine lv_aload_n hx hb (D_42 W_prog_4_method_4_code_0 13 rfl rfl) rfl (lv_at hl 1 rfl) ?_
    refine zget (ci := 2) (C := RX2) (T := TX2) (v := .int (iI (F2 2 l0 4))) (k := 4) hx hb hts inW_2 hown hK hZ2 g1.1 g1.2 rfl (by decide) k_6_221 rfl (D_180 W_prog_4_method_4_code_0 14 rfl rfl rfl) ?_
    refine lv_sipush (v := iI 3200) hx hb (D_17 W_prog_4_method_4_code_0 17 rfl rfl rfl) (by decide) ?_
    obtain ⟨g5, hf⟩ := gif hf
    refine zlt (tgt := 25) hx hb g5 (by decide) (D_161 W_prog_4_method_4_code_0 20 rfl rfl rfl) (by decide) (fun h6 => ?_) (fun h6 => ?_)
    · replace hf := gpos hf h6
      refine lv_iconst (v := iI 0) hx hb (D_3 W_prog_4_method_4_code_0 25 rfl rfl) rfl ?_
      refine lv_istore (lv' := [(5, .int (iI 0)), (3, .long (lI r2)), (0, .ref (ad 2 l0 0)), (1, .ref (ad 6 l1 0)), (2, .int (iI l2))]) hx hb (D_54 W_prog_4_method_4_code_0 26 rfl rfl) hl (by decide) rfl (fun ls hl => ?_)
      refine lv_iconst (v := iI 0) hx hb (D_3 W_prog_4_method_4_code_0 28 rfl rfl) rfl ?_
      refine lv_istore (lv' := [(6, .int (iI 0)), (5, .int (iI 0)), (3, .long (lI r2)), (0, .ref (ad 2 l0 0)), (1, .ref (ad 6 l1 0)), (2, .int (iI l2))]) hx hb (D_54 W_prog_4_method_4_code_0 29 rfl rfl) hl (by decide) rfl (fun ls hl => ?_)
      refine lv_iconst (v := iI 0) hx hb (D_3 W_prog_4_method_4_code_0 31 rfl rfl) rfl ?_
      refine lv_istore (lv' := [(7, .int (iI 0)), (6, .int (iI 0)), (5, .int (iI 0)), (3, .long (lI r2)), (0, .ref (ad 2 l0 0)), (1, .ref (ad 6 l1 0)), (2, .int (iI l2))]) hx hb (D_54 W_prog_4_method_4_code_32 0 rfl rfl) hl (by decide) rfl (fun ls hl => ?_)
      exact b_Layout_addColumn_34 X hf hZ2 hS2 (lv_sub hl [0, 1, 2, 3, 4, 5, 6] rfl)
    · replace hf := gneg hf h6
      exact b_Layout_addColumn_23 X hf hZ2 hS2 (lv_sub hl [] rfl)

abbrev Q_Performance_begin (K : zK) (D : va_G) (ca : Nat → ClassId) (ad : Nat → Int → Nat → Nat) (L : List Nat) (r : Int) (F : zF) (B : zB) (A : Nat → Prop) : Array Value → State → Outcome → State → Prop := va_Qv (S := Unit) (fun _ => True) (fun _ => zPo D ca ad lnC K.2 L F B A) A
def f_Performance_begin_22 (K : zK) : Nat → Int → Int → zF → zB → zO
  | 0, _, _, _, _ => none
  | n + 1, l1, l0, F, B => if 0 ≤ l0 ∧ l0 < K.2 5 then if r32 l1 then if r32 (F 5 l0 0) then (if (F 5 l0 0) ≤ l1 then zbind (f_Performance_sortStrokes K l0 F B) (fun r10 F10 B10 => some (0, F10, B10)) else if 0 ≤ l1 ∧ l1 < 2000 then if r32 (B 5 l0 344 l1) then zbind (f_Performance_strokeKey K l0 l1 (B 5 l0 344 l1) 1 F B) (fun r13 F13 B13 => if 0 ≤ (2 * l1) ∧ (2 * l1) < (lnC 5 l0 (F 5 l0 8).toNat : Int) then if zk 5 (F 5 l0 8).toNat = (3, 1) then if lnC 5 l0 (F 5 l0 8).toNat ≤ 2147483647 then if r32 ((zup4 B13 5 l0 (F 5 l0 8).toNat (2 * l1) r13) 5 l0 345 l1) then zbind (f_Performance_strokeKey K l0 l1 ((zup4 B13 5 l0 (F 5 l0 8).toNat (2 * l1) r13) 5 l0 345 l1) 0 F13 (zup4 B13 5 l0 (F 5 l0 8).toNat (2 * l1) r13)) (fun r19 F19 B19 => if 0 ≤ ((2 * l1) + 1) ∧ ((2 * l1) + 1) < (lnC 5 l0 (F13 5 l0 8).toNat : Int) then if zk 5 (F13 5 l0 8).toNat = (3, 1) then if lnC 5 l0 (F13 5 l0 8).toNat ≤ 2147483647 then f_Performance_begin_22 K n (l1 + 1) l0 F19 (zup4 B19 5 l0 (F13 5 l0 8).toNat ((2 * l1) + 1) r19) else none else none else none) else none else none else none else none) else none else none) else none else none else none
set_option maxHeartbeats 4000000 in
set_option maxRecDepth 100000 in
theorem b_Performance_begin_22 {D : va_G} {ca : Nat → ClassId} {ad : Nat → Int → Nat → Nat} {L : List Nat} {aS vS : Nat → Nat} {A : Nat → Prop} {p : Program} {l : Launch} {e : Env} {s : State} {m : MethodId} {args : Array Value} {below : List Frame} {meth : Method} {c : Code} {K : zK} {r : Int} {F9 : zF} {B9 : zB} (X : zX D ca L aS vS A p s m args meth c prog_7_method_11_code 2 (Option.none : Option Jvm.ClassFile.FieldType) "StaveHouse$Performance") : ∀ {n : Nat} {l1 : Int} {l0 : Int} {F : zF} {B : zB} {H : Heap} {locs : List Loc} {ls : Array Slot}, f_Performance_begin_22 K n l1 l0 F B = some (r, F9, B9) → zH D ca ad lnC K.2 L F B A H → va_S A s.heap H locs → lv_has ls 2 [(1, .int (iI l1)), (0, .ref (ad 5 l0 0))] → W p l e ({ frames := 2, cells := 0, slots := 0, locals := 50 } : Room) s m args below meth c H locs 0 0 (MQ below (Q_Performance_begin K D ca ad L r F9 B9 A) args s 0 0 A) (F0 m 22 ls []) := by
  obtain ⟨hx, hb, hr, hml, hown, hts, hlk, hK, hA, hL, hX⟩ := id X
  intro n
  induction n with
  | zero =>
    intros
    rename_i hf _ _ _
    cases hf
  | succ n ih =>
    intro l1 l0 F B H locs ls hf hZ hS hl
    replace hf : (if 0 ≤ l0 ∧ l0 < K.2 5 then if r32 l1 then if r32 (F 5 l0 0) then (if (F 5 l0 0) ≤ l1 then zbind (f_Performance_sortStrokes K l0 F B) (fun r10 F10 B10 => some (0, F10, B10)) else if 0 ≤ l1 ∧ l1 < 2000 then if r32 (B 5 l0 344 l1) then zbind (f_Performance_strokeKey K l0 l1 (B 5 l0 344 l1) 1 F B) (fun r13 F13 B13 => if 0 ≤ (2 * l1) ∧ (2 * l1) < (lnC 5 l0 (F 5 l0 8).toNat : Int) then if zk 5 (F 5 l0 8).toNat = (3, 1) then if lnC 5 l0 (F 5 l0 8).toNat ≤ 2147483647 then if r32 ((zup4 B13 5 l0 (F 5 l0 8).toNat (2 * l1) r13) 5 l0 345 l1) then zbind (f_Performance_strokeKey K l0 l1 ((zup4 B13 5 l0 (F 5 l0 8).toNat (2 * l1) r13) 5 l0 345 l1) 0 F13 (zup4 B13 5 l0 (F 5 l0 8).toNat (2 * l1) r13)) (fun r19 F19 B19 => if 0 ≤ ((2 * l1) + 1) ∧ ((2 * l1) + 1) < (lnC 5 l0 (F13 5 l0 8).toNat : Int) then if zk 5 (F13 5 l0 8).toNat = (3, 1) then if lnC 5 l0 (F13 5 l0 8).toNat ≤ 2147483647 then f_Performance_begin_22 K n (l1 + 1) l0 F19 (zup4 B19 5 l0 (F13 5 l0 8).toNat ((2 * l1) + 1) r19) else none else none else none) else none else none else none else none) else none else none) else none else none else none) = some (r, F9, B9) := hf
    refine lv_iload_n hx hb (D_27 W_prog_7_method_11_code_0 22 rfl rfl) rfl (lv_at hl 0 rfl) ?_
    refine lv_aload_n hx hb (D_42 W_prog_7_method_11_code_0 23 rfl rfl) rfl (lv_at hl 1 rfl) ?_
    obtain ⟨g6, hf⟩ := gif hf
    refine zget (ci := 5) (C := RX5) (T := TX5) (v := .int (iI (F 5 l0 0))) (k := 0) hx hb hts inW_5 hown hK hZ g6.1 g6.2 rfl (by decide) k_6_63 rfl (D_180 W_prog_7_method_11_code_0 24 rfl rfl rfl) ?_
    obtain ⟨g7, hf⟩ := gif hf
    obtain ⟨g8, hf⟩ := gif hf
    refine zge (tgt := 84) hx hb g7 g8 (D_162 W_prog_7_method_11_code_0 27 rfl rfl rfl) (by decide) (fun h9 => ?_) (fun h9 => ?_)
    · replace hf := gpos hf h9
      refine lv_aload_n hx hb (D_42 W_prog_7_method_11_code_64 20 rfl rfl) rfl (lv_at hl 1 rfl) ?_
      obtain ⟨r10, F10, B10, hc10, hf⟩ := gbind hf
      refine va_callv (va_runV (As := []) (rest := []) ⟨hx, hb, hml, hown, hts⟩ (c_Performance_sortStrokes (l := l) hc10) (cwV 0 hts (gdV k_7_96 k_7_98 ks_87 k_1_20 k_7_99) rfl rfl rfl (by decide +kernel) ⟨Nat.le_of_ble_eq_true rfl, Nat.le_of_ble_eq_true rfl⟩) (zPV X hZ hS (ci := 5) g6.1 g6.2 (r := (RX5, TX5, 14)) rfl []) rfl rfl hl.1 rfl (lv_room (Nat.le_of_ble_eq_true rfl)) (D_182 W_prog_7_method_11_code_64 21 rfl rfl rfl) ⟨Nat.le_of_ble_eq_true rfl, Nat.le_of_ble_eq_true rfl⟩) hS (fun q _ h => zAin X hS q h) (zAin X hS) (fun u10 t10 H10 locs10 ht10 hv10 hw10 hB10 hz10 hk10 hS10 => ?_)
      have hZ10 := zBack X ht10 hB10
      cases hf
      exact W.vret hx hb hr (fun t ht hW => ⟨⟨(), rfl, trivial, by rw [ht]; exact hZ10, va_K.moved hW.alike hK⟩, hS10.F ht⟩) hS10.2.2 (D_177 W_prog_7_method_11_code_64 24 rfl rfl) hlk
    · replace hf := gneg hf h9
      refine lv_aload_n hx hb (D_42 W_prog_7_method_11_code_0 30 rfl rfl) rfl (lv_at hl 1 rfl) ?_
      refine zget (ci := 5) (C := RX5) (T := TX5) (v := .ref (ad 5 l0 ((F 5 l0 8).toNat + 1))) (k := 8) hx hb hts inW_5 hown hK hZ g6.1 g6.2 rfl (by decide) k_6_77 rfl (D_180 W_prog_7_method_11_code_0 31 rfl rfl rfl) ?_
      refine lv_iconst (v := iI 2) hx hb (D_5 W_prog_7_method_11_code_32 2 rfl rfl) rfl ?_
      refine lv_iload_n hx hb (D_27 W_prog_7_method_11_code_32 3 rfl rfl) rfl (lv_at hl 0 rfl) ?_
      refine zmul hx hb (D_104 W_prog_7_method_11_code_32 4 rfl rfl) ?_
      refine lv_aload_n hx hb (D_42 W_prog_7_method_11_code_32 5 rfl rfl) rfl (lv_at hl 1 rfl) ?_
      refine lv_iload_n hx hb (D_27 W_prog_7_method_11_code_32 6 rfl rfl) rfl (lv_at hl 0 rfl) ?_
      refine lv_aload_n hx hb (D_42 W_prog_7_method_11_code_32 7 rfl rfl) rfl (lv_at hl 1 rfl) ?_
      refine zget (ci := 5) (C := RX5) (T := TX5) (v := .ref (ad 5 l0 (7 + 1))) (k := 7) hx hb hts inW_5 hown hK hZ g6.1 g6.2 rfl (by decide) k_6_76 rfl (D_180 W_prog_7_method_11_code_32 8 rfl rfl rfl) ?_
      refine lv_iconst (v := iI 4) hx hb (D_7 W_prog_7_method_11_code_32 11 rfl rfl) rfl ?_
      refine zaldQ (t := 0) (ci := 5) (k := 7) hx hb hK rfl hZ g6.1 g6.2 rfl (Nat.le_of_ble_eq_true rfl) (by decide) (by decide) (D_50 W_prog_7_method_11_code_32 12 rfl rfl) ?_
      refine W.eq (g2 := F0 m 45 ls [.ref (ad 5 l0 (344 + 1)), .int (iI l1), .ref (ad 5 l0 0), .int (iI (2 * l1)), .ref (ad 5 l0 ((F 5 l0 8).toNat + 1))]) rfl ?_
      refine lv_iload_n hx hb (D_27 W_prog_7_method_11_code_32 13 rfl rfl) rfl (lv_at hl 0 rfl) ?_
      obtain ⟨g11, hf⟩ := gif hf
      refine zald (ci := 5) (k := 344) hx hb hK rfl hZ g6.1 g6.2 rfl (Nat.le_of_ble_eq_true rfl) g11.1 g11.2 (D_46 W_prog_7_method_11_code_32 14 rfl rfl) ?_
      obtain ⟨g12, hf⟩ := gif hf
      refine zi2l hx hb g12 (D_133 W_prog_7_method_11_code_32 15 rfl rfl) ?_
      refine lv_iconst (v := iI 1) hx hb (D_4 W_prog_7_method_11_code_32 16 rfl rfl) rfl ?_
      obtain ⟨r13, F13, B13, hc13, hf⟩ := gbind hf
      refine va_calll (va_runV (As := [.int (iI l1), .long (lI (B 5 l0 344 l1)), .int (iI 1)]) (rest := [.int (iI (2 * l1)), .ref (ad 5 l0 ((F 5 l0 8).toNat + 1))]) ⟨hx, hb, hml, hown, hts⟩ (c_Performance_strokeKey (l := l) hc13) (cwV 3 hts (gdV k_7_91 k_7_93 ks_86 k_1_20 k_7_94) rfl rfl rfl (by decide +kernel) ⟨Nat.le_of_ble_eq_true rfl, Nat.le_of_ble_eq_true rfl⟩) (zPV X hZ hS (ci := 5) g6.1 g6.2 (r := (RX5, TX5, 14)) rfl [.int (iI l1), .long (lI (B 5 l0 344 l1)), .int (iI 1)]) rfl rfl hl.1 rfl (lv_room (Nat.le_of_ble_eq_true rfl)) (D_182 W_prog_7_method_11_code_32 17 rfl rfl rfl) ⟨Nat.le_of_ble_eq_true rfl, Nat.le_of_ble_eq_true rfl⟩) hS (fun q _ h => zAin X hS q h) (zAin X hS) (fun p13 u13 t13 H13 locs13 ht13 hv13 hw13 hB13 hz13 hk13 hS13 => ?_)
      have hZ13 := zBack X ht13 hB13
      subst hw13
      obtain ⟨g14, hf⟩ := gif hf
      obtain ⟨g15, hf⟩ := gif hf
      obtain ⟨g16, hf⟩ := gif hf
      refine zlast (ci := 5) (k := (F 5 l0 8).toNat) hx hb hK rfl hZ13 hS13 g6.1 g6.2 g15 g16 g14.1 g14.2 (D_80 W_prog_7_method_11_code_32 20 rfl rfl) (fun H17 locs17 hZ17 hS17 => ?_)
      refine lv_aload_n hx hb (D_42 W_prog_7_method_11_code_32 21 rfl rfl) rfl (lv_at hl 1 rfl) ?_
      refine zget (ci := 5) (C := RX5) (T := TX5) (v := .ref (ad 5 l0 ((F13 5 l0 8).toNat + 1))) (k := 8) hx hb hts inW_5 hown hK hZ17 g6.1 g6.2 rfl (by decide) k_6_77 rfl (D_180 W_prog_7_method_11_code_32 22 rfl rfl rfl) ?_
      refine lv_iconst (v := iI 2) hx hb (D_5 W_prog_7_method_11_code_32 25 rfl rfl) rfl ?_
      refine lv_iload_n hx hb (D_27 W_prog_7_method_11_code_32 26 rfl rfl) rfl (lv_at hl 0 rfl) ?_
      refine zmul hx hb (D_104 W_prog_7_method_11_code_32 27 rfl rfl) ?_
      refine lv_iconst (v := iI 1) hx hb (D_4 W_prog_7_method_11_code_32 28 rfl rfl) rfl ?_
      refine zadd hx hb (D_96 W_prog_7_method_11_code_32 29 rfl rfl) ?_
      refine lv_aload_n hx hb (D_42 W_prog_7_method_11_code_32 30 rfl rfl) rfl (lv_at hl 1 rfl) ?_
      refine lv_iload_n hx hb (D_27 W_prog_7_method_11_code_32 31 rfl rfl) rfl (lv_at hl 0 rfl) ?_
      refine lv_aload_n hx hb (D_42 W_prog_7_method_11_code_64 0 rfl rfl) rfl (lv_at hl 1 rfl) ?_
      refine zget (ci := 5) (C := RX5) (T := TX5) (v := .ref (ad 5 l0 (7 + 1))) (k := 7) hx hb hts inW_5 hown hK hZ17 g6.1 g6.2 rfl (by decide) k_6_76 rfl (D_180 W_prog_7_method_11_code_64 1 rfl rfl rfl) ?_
      refine lv_iconst (v := iI 5) hx hb (D_8 W_prog_7_method_11_code_64 4 rfl rfl) rfl ?_
      refine zaldQ (t := 0) (ci := 5) (k := 7) hx hb hK rfl hZ17 g6.1 g6.2 rfl (Nat.le_of_ble_eq_true rfl) (by decide) (by decide) (D_50 W_prog_7_method_11_code_64 5 rfl rfl) ?_
      refine W.eq (g2 := F0 m 70 ls [.ref (ad 5 l0 (345 + 1)), .int (iI l1), .ref (ad 5 l0 0), .int (iI ((2 * l1) + 1)), .ref (ad 5 l0 ((F13 5 l0 8).toNat + 1))]) rfl ?_
      refine lv_iload_n hx hb (D_27 W_prog_7_method_11_code_64 6 rfl rfl) rfl (lv_at hl 0 rfl) ?_
      refine zald (ci := 5) (k := 345) hx hb hK rfl hZ17 g6.1 g6.2 rfl (Nat.le_of_ble_eq_true rfl) g11.1 g11.2 (D_46 W_prog_7_method_11_code_64 7 rfl rfl) ?_
      obtain ⟨g18, hf⟩ := gif hf
      refine zi2l hx hb g18 (D_133 W_prog_7_method_11_code_64 8 rfl rfl) ?_
      refine lv_iconst (v := iI 0) hx hb (D_3 W_prog_7_method_11_code_64 9 rfl rfl) rfl ?_
      obtain ⟨r19, F19, B19, hc19, hf⟩ := gbind hf
      refine va_calll (va_runV (As := [.int (iI l1), .long (lI ((zup4 B13 5 l0 (F 5 l0 8).toNat (2 * l1) r13) 5 l0 345 l1)), .int (iI 0)]) (rest := [.int (iI ((2 * l1) + 1)), .ref (ad 5 l0 ((F13 5 l0 8).toNat + 1))]) ⟨hx, hb, hml, hown, hts⟩ (c_Performance_strokeKey (l := l) hc19) (cwV 3 hts (gdV k_7_91 k_7_93 ks_86 k_1_20 k_7_94) rfl rfl rfl (by decide +kernel) ⟨Nat.le_of_ble_eq_true rfl, Nat.le_of_ble_eq_true rfl⟩) (zPV X hZ17 hS17 (ci := 5) g6.1 g6.2 (r := (RX5, TX5, 14)) rfl [.int (iI l1), .long (lI ((zup4 B13 5 l0 (F 5 l0 8).toNat (2 * l1) r13) 5 l0 345 l1)), .int (iI 0)]) rfl rfl hl.1 rfl (lv_room (Nat.le_of_ble_eq_true rfl)) (D_182 W_prog_7_method_11_code_64 10 rfl rfl rfl) ⟨Nat.le_of_ble_eq_true rfl, Nat.le_of_ble_eq_true rfl⟩) hS17 (fun q _ h => zAin X hS17 q h) (zAin X hS17) (fun p19 u19 t19 H19 locs19 ht19 hv19 hw19 hB19 hz19 hk19 hS19 => ?_)
      have hZ19 := zBack X ht19 hB19
      subst hw19
      obtain ⟨g20, hf⟩ := gif hf
      obtain ⟨g21, hf⟩ := gif hf
      obtain ⟨g22, hf⟩ := gif hf
      refine zlast (ci := 5) (k := (F13 5 l0 8).toNat) hx hb hK rfl hZ19 hS19 g6.1 g6.2 g21 g22 g20.1 g20.2 (D_80 W_prog_7_method_11_code_64 13 rfl rfl) (fun H23 locs23 hZ23 hS23 => ?_)
      refine lv_iinc (v := iI (l1 + 1)) (lv' := [(1, .int (iI (l1 + 1))), (0, .ref (ad 5 l0 0))]) hx hb d_7_11_78 hl (k := 0) rfl (iI_add _ 1) (by decide) rfl (fun ls hl => ?_)
      refine lv_goto (tgt := 22) hx hb (D_167 W_prog_7_method_11_code_64 17 rfl rfl rfl) (by decide) ?_
      exact ih hf hZ23 hS23 (lv_sub hl [0, 1] rfl)

def f_Performance_begin (K : zK) (l0 : Int) (F : zF) (B : zB) : zO := if 0 ≤ l0 ∧ l0 < K.2 5 then f_Performance_begin_22 K K.1 0 l0 (zup3 (zup3 (zup3 (zup3 F 5 l0 2 0) 5 l0 11 0) 5 l0 12 0) 5 l0 13 0) B else none
set_option maxHeartbeats 4000000 in
set_option maxRecDepth 100000 in
theorem c_Performance_begin {l : Launch} {D : va_G} {ca : Nat → ClassId} {ad : Nat → Int → Nat → Nat} {L : List Nat} {aS vS : Nat → Nat} {sz : Nat} {K : zK}  {l0 : Int} {F F9 : zF} {B B9 : zB} {r : Int} (hf : f_Performance_begin K l0 F B = some (r, F9, B9)) : Met l ({ cls := "StaveHouse$Performance", name := "begin", desc := "()V" } : Jvm.MethodName) (Cond.code ({ cls := "StaveHouse$Performance", name := "begin", desc := "()V" } : Jvm.MethodName) prog_7_method_11_code 2 (Option.none : Option Jvm.ClassFile.FieldType) :: wAll) ({ frames := 2, cells := 0, slots := 0, locals := 50 } : Room) (va_Pc [.ref (ad 5 l0 0)] (zPre D ca ad lnC K.2 L aS vS F B sz)) (Q_Performance_begin K D ca ad L r F9 B9 (zA L sz)) 0 0 (zA L sz) := by
  refine zMet (Qc := Q_Performance_begin K D ca ad L r F9 B9) (lv := [(0, .ref (ad 5 l0 0))]) (by decide) (Nat.le_of_ble_eq_true rfl) rfl (fun A p e s m below meth c ls X hZ hS hl => ?_)
  obtain ⟨hx, hb, hr, hml, hown, hts, hlk, hK, hA, hL, hX⟩ := id X
  replace hf : (if 0 ≤ l0 ∧ l0 < K.2 5 then f_Performance_begin_22 K K.1 0 l0 (zup3 (zup3 (zup3 (zup3 F 5 l0 2 0) 5 l0 11 0) 5 l0 12 0) 5 l0 13 0) B else none) = some (r, F9, B9) := hf
  refine lv_aload_n hx hb (D_42 W_prog_7_method_11_code_0 0 rfl rfl) rfl (lv_at hl 0 rfl) ?_
  refine lv_iconst (v := iI 0) hx hb (D_3 W_prog_7_method_11_code_0 1 rfl rfl) rfl ?_
  obtain ⟨g1, hf⟩ := gif hf
  refine zput (ci := 5) (C := RX5) (T := TX5) (k := 2) (v := 0) (w := .int (iI 0)) hx hb hts inW_5 tyX5 tyX5_ok nmX5 hown hK hZ hS g1.1 g1.2 rfl (by decide) k_6_68 rfl (fun G h => congrArg (fun q => Value.int (iI q)) h) rfl rfl (zno (by decide)) (D_181 W_prog_7_method_11_code_0 2 rfl rfl rfl) (fun H2 locs2 hZ2 hS2 => ?_)
  refine lv_aload_n hx hb (D_42 W_prog_7_method_11_code_0 5 rfl rfl) rfl (lv_at hl 0 rfl) ?_
  refine lv_iconst (v := iI 0) hx hb (D_3 W_prog_7_method_11_code_0 6 rfl rfl) rfl ?_
  refine zput (ci := 5) (C := RX5) (T := TX5) (k := 11) (v := 0) (w := .int (iI 0)) hx hb hts inW_5 tyX5 tyX5_ok nmX5 hown hK hZ2 hS2 g1.1 g1.2 rfl (by decide) k_6_80 rfl (fun G h => congrArg (fun q => Value.int (iI q)) h) rfl rfl (zno (by decide)) (D_181 W_prog_7_method_11_code_0 7 rfl rfl rfl) (fun H3 locs3 hZ3 hS3 => ?_)
  refine lv_aload_n hx hb (D_42 W_prog_7_method_11_code_0 10 rfl rfl) rfl (lv_at hl 0 rfl) ?_
  refine lv_iconst (v := iI 0) hx hb (D_3 W_prog_7_method_11_code_0 11 rfl rfl) rfl ?_
  refine zput (ci := 5) (C := RX5) (T := TX5) (k := 12) (v := 0) (w := .int (iI 0)) hx hb hts inW_5 tyX5 tyX5_ok nmX5 hown hK hZ3 hS3 g1.1 g1.2 rfl (by decide) k_6_81 rfl (fun G h => congrArg (fun q => Value.int (iI q)) h) rfl rfl (zno (by decide)) (D_181 W_prog_7_method_11_code_0 12 rfl rfl rfl) (fun H4 locs4 hZ4 hS4 => ?_)
  refine lv_aload_n hx hb (D_42 W_prog_7_method_11_code_0 15 rfl rfl) rfl (lv_at hl 0 rfl) ?_
  refine lv_iconst (v := iI 0) hx hb (D_3 W_prog_7_method_11_code_0 16 rfl rfl) rfl ?_
  refine zput (ci := 5) (C := RX5) (T := TX5) (k := 13) (v := 0) (w := .int (iI 0)) hx hb hts inW_5 tyX5 tyX5_ok nmX5 hown hK hZ4 hS4 g1.1 g1.2 rfl (by decide) k_6_82 rfl (fun G h => congrArg (fun q => Value.int (iI q)) h) rfl rfl (zno (by decide)) (D_181 W_prog_7_method_11_code_0 17 rfl rfl rfl) (fun H5 locs5 hZ5 hS5 => ?_)
  refine lv_iconst (v := iI 0) hx hb (D_3 W_prog_7_method_11_code_0 20 rfl rfl) rfl ?_
  refine lv_istore_n (lv' := [(1, .int (iI 0)), (0, .ref (ad 5 l0 0))]) hx hb (D_60 W_prog_7_method_11_code_0 21 rfl rfl) rfl hl (by decide) rfl (fun ls hl => ?_)
  exact b_Performance_begin_22 X hf hZ5 hS5 (lv_sub hl [0, 1] rfl)

abbrev Q_CString_charAt (K : zK) (D : va_G) (ca : Nat → ClassId) (ad : Nat → Int → Nat → Nat) (L : List Nat) (r : Int) (F : zF) (B : zB) (A : Nat → Prop) : Array Value → State → Outcome → State → Prop := va_Qi (S := Unit) (fun p _ => p = iI r) (fun _ => zPo D ca ad lnC K.2 L F B A) A
def f_CString_charAt (K : zK) (l0 : Nat) (l1 : Int) (F : zF) (B : zB) : zO := if l0 < strL.length then zbind (f_CString_isLatin1 K l0 F B) (fun r2 F2 B2 => if r32 r2 then (if r2 = 0 then none else zbind (f_CStringLatin1_charAt K l0 l1 F2 B2) (fun r5 F5 B5 => if 0 ≤ r5 ∧ r5 < 65536 then some (r5, F5, B5) else none)) else none) else none
set_option maxHeartbeats 4000000 in
set_option maxRecDepth 100000 in
theorem c_CString_charAt {l : Launch} {D : va_G} {ca : Nat → ClassId} {ad : Nat → Int → Nat → Nat} {L : List Nat} {aS vS : Nat → Nat} {sz : Nat} {K : zK}  {l0 : Nat} {l1 : Int} {F F9 : zF} {B B9 : zB} {r : Int} (hf : f_CString_charAt K l0 l1 F B = some (r, F9, B9)) : Met l ({ cls := "java/lang/String", name := "charAt", desc := "(I)C" } : Jvm.MethodName) (Cond.code ({ cls := "java/lang/String", name := "charAt", desc := "(I)C" } : Jvm.MethodName) prog_21_method_56_code 2 (Option.some Jvm.ClassFile.FieldType.char) :: wAll) ({ frames := 3, cells := 0, slots := 0, locals := 64 } : Room) (va_Pc [.ref (aS l0), .int (iI l1)] (zPre D ca ad lnC K.2 L aS vS F B sz)) (Q_CString_charAt K D ca ad L r F9 B9 (zA L sz)) 0 0 (zA L sz) := by
  refine zMet (Qc := Q_CString_charAt K D ca ad L r F9 B9) (lv := [(0, .ref (aS l0)), (1, .int (iI l1))]) (by decide) (Nat.le_of_ble_eq_true rfl) rfl (fun A p e s m below meth c ls X hZ hS hl => ?_)
  obtain ⟨hx, hb, hr, hml, hown, hts, hlk, hK, hA, hL, hX⟩ := id X
  replace hf : (if l0 < strL.length then zbind (f_CString_isLatin1 K l0 F B) (fun r2 F2 B2 => if r32 r2 then (if r2 = 0 then none else zbind (f_CStringLatin1_charAt K l0 l1 F2 B2) (fun r5 F5 B5 => if 0 ≤ r5 ∧ r5 < 65536 then some (r5, F5, B5) else none)) else none) else none) = some (r, F9, B9) := hf
  refine lv_aload_n hx hb d_21_56_0 rfl (lv_at hl 0 rfl) ?_
  obtain ⟨g1, hf⟩ := gif hf
  obtain ⟨r2, F2, B2, hc2, hf⟩ := gbind hf
  refine va_calli (va_runV (As := []) (rest := []) ⟨hx, hb, hml, hown, hts⟩ (c_CString_isLatin1 (l := l) hc2) (cwV 0 hts (gdV k_3_75 k_3_76 k_3_77 k_1_11 k_3_78) rfl rfl rfl (by decide +kernel) ⟨Nat.le_of_ble_eq_true rfl, Nat.le_of_ble_eq_true rfl⟩) ⟨zBlind, zsrecv hX g1 hS, zAt X hZ hS [.ref (aS l0)]⟩ rfl rfl hl.1 rfl (lv_room (Nat.le_of_ble_eq_true rfl)) d_21_56_1 ⟨Nat.le_of_ble_eq_true rfl, Nat.le_of_ble_eq_true rfl⟩) hS (fun q _ h => zAin X hS q h) (zAin X hS) (fun p2 u2 t2 H2 locs2 ht2 hv2 hw2 hB2 hz2 hk2 hS2 => ?_)
  have hZ2 := zBack X ht2 hB2
  subst hw2
  obtain ⟨g3, hf⟩ := gif hf
  refine z0eq (tgt := 16) hx hb g3 d_21_56_4 (by decide) (fun h4 => ?_) (fun h4 => ?_)
  · replace hf := gpos hf h4
    refine lv_aload_n hx hb d_21_56_16 rfl (lv_at hl 0 rfl) ?_
    refine vk_getf hx hb (zstr hX g1).2.1 hS2 hown (hts _ k_15_170) (fun _ h => h) d_21_56_17 ?_
    refine W.eq (g2 := F0 m 20 ls [.ref (vS l0)]) rfl ?_
    refine lv_iload_n hx hb d_21_56_20 rfl (lv_at hl 1 rfl) ?_
    cases hf
  · replace hf := gneg hf h4
    refine lv_aload_n hx hb d_21_56_7 rfl (lv_at hl 0 rfl) ?_
    refine vk_getf hx hb (zstr hX g1).2.1 hS2 hown (hts _ k_15_170) (fun _ h => h) d_21_56_8 ?_
    refine W.eq (g2 := F0 m 11 ls [.ref (vS l0)]) rfl ?_
    refine lv_iload_n hx hb d_21_56_11 rfl (lv_at hl 1 rfl) ?_
    obtain ⟨r5, F5, B5, hc5, hf⟩ := gbind hf
    refine va_calli (va_runS (As := [.ref (vS l0), .int (iI l1)]) (rest := []) ⟨hx, hb, hml, hown, hts⟩ (c_CStringLatin1_charAt (l := l) hc5) (va_cwS 2 hts (gdS k_7_137 k_7_138 k_1_12 k_7_139) rfl rfl rfl (by decide +kernel) ⟨Nat.le_of_ble_eq_true rfl, Nat.le_of_ble_eq_true rfl⟩) (zPS X hZ2 hS2 [.ref (vS l0), .int (iI l1)]) rfl rfl hl.1 rfl (lv_room (Nat.le_of_ble_eq_true rfl)) d_21_56_12 ⟨Nat.le_of_ble_eq_true rfl, Nat.le_of_ble_eq_true rfl⟩) hS2 (fun q _ h => zAin X hS2 q h) (zAin X hS2) (fun p5 u5 t5 H5 locs5 ht5 hv5 hw5 hB5 hz5 hk5 hS5 => ?_)
    have hZ5 := zBack X ht5 hB5
    subst hw5
    obtain ⟨g6, hf⟩ := gif hf
    cases hf
    exact W.zret hx hb hr (zchar g6) (fun t ht hW => ⟨⟨_, (), rfl, rfl, by rw [ht]; exact hZ5, va_K.moved hW.alike hK⟩, hS5.F ht⟩) hS5.2.2 d_21_56_15 hlk

abbrev Q_SoundFile_takeOnly (K : zK) (D : va_G) (ca : Nat → ClassId) (ad : Nat → Int → Nat → Nat) (L : List Nat) (r : Int) (F : zF) (B : zB) (A : Nat → Prop) : Array Value → State → Outcome → State → Prop := va_Qv (S := Unit) (fun _ => True) (fun _ => zPo D ca ad lnC K.2 L F B A) A
def f_SoundFile_takeOnly_26 (K : zK)  (F : zF) (B : zB) : zO := some (0, F, B)
set_option maxHeartbeats 4000000 in
set_option maxRecDepth 100000 in
theorem b_SoundFile_takeOnly_26 {D : va_G} {ca : Nat → ClassId} {ad : Nat → Int → Nat → Nat} {L : List Nat} {aS vS : Nat → Nat} {A : Nat → Prop} {p : Program} {l : Launch} {e : Env} {s : State} {m : MethodId} {args : Array Value} {below : List Frame} {meth : Method} {c : Code} {K : zK} {r : Int} {F9 : zF} {B9 : zB} (X : zX D ca L aS vS A p s m args meth c prog_10_method_6_code 4 (Option.none : Option Jvm.ClassFile.FieldType) "StaveHouse$SoundFile")  {F : zF} {B : zB} {H : Heap} {locs : List Loc} {ls : Array Slot} (hf : f_SoundFile_takeOnly_26 K  F B = some (r, F9, B9)) (hZ : zH D ca ad lnC K.2 L F B A H) (hS : va_S A s.heap H locs) (hl : lv_has ls 4 []) : W p l e ({ frames := 2, cells := 0, slots := 0, locals := 42 } : Room) s m args below meth c H locs 0 0 (MQ below (Q_SoundFile_takeOnly K D ca ad L r F9 B9 A) args s 0 0 A) (F0 m 26 ls []) := by
  obtain ⟨hx, hb, hr, hml, hown, hts, hlk, hK, hA, hL, hX⟩ := id X
  replace hf : (some (0, F, B)) = some (r, F9, B9) := hf
  cases hf
  exact W.vret hx hb hr (fun t ht hW => ⟨⟨(), rfl, trivial, by rw [ht]; exact hZ, va_K.moved hW.alike hK⟩, hS.F ht⟩) hS.2.2 (D_177 W_prog_10_method_6_code_0 26 rfl rfl) hlk

def f_SoundFile_takeOnly_15 (K : zK) (l0 : Int) (F : zF) (B : zB) : zO := if 0 ≤ l0 ∧ l0 < K.2 8 then zbind (f_SoundFile_refuse K l0 1 ((F 8 l0 5) - 1) F B) (fun r9 F9 B9 => f_SoundFile_takeOnly_26 K F9 B9) else none
set_option maxHeartbeats 4000000 in
set_option maxRecDepth 100000 in
theorem b_SoundFile_takeOnly_15 {D : va_G} {ca : Nat → ClassId} {ad : Nat → Int → Nat → Nat} {L : List Nat} {aS vS : Nat → Nat} {A : Nat → Prop} {p : Program} {l : Launch} {e : Env} {s : State} {m : MethodId} {args : Array Value} {below : List Frame} {meth : Method} {c : Code} {K : zK} {r : Int} {F9 : zF} {B9 : zB} (X : zX D ca L aS vS A p s m args meth c prog_10_method_6_code 4 (Option.none : Option Jvm.ClassFile.FieldType) "StaveHouse$SoundFile") {l0 : Int} {F : zF} {B : zB} {H : Heap} {locs : List Loc} {ls : Array Slot} (hf : f_SoundFile_takeOnly_15 K l0 F B = some (r, F9, B9)) (hZ : zH D ca ad lnC K.2 L F B A H) (hS : va_S A s.heap H locs) (hl : lv_has ls 4 [(0, .ref (ad 8 l0 0))]) : W p l e ({ frames := 2, cells := 0, slots := 0, locals := 42 } : Room) s m args below meth c H locs 0 0 (MQ below (Q_SoundFile_takeOnly K D ca ad L r F9 B9 A) args s 0 0 A) (F0 m 15 ls []) := by
  obtain ⟨hx, hb, hr, hml, hown, hts, hlk, hK, hA, hL, hX⟩ := id X
  replace hf : (if 0 ≤ l0 ∧ l0 < K.2 8 then zbind (f_SoundFile_refuse K l0 1 ((F 8 l0 5) - 1) F B) (fun r9 F9 B9 => f_SoundFile_takeOnly_26 K F9 B9) else none) = some (r, F9, B9) := hf
  refine lv_aload_n hx hb (D_42 W_prog_10_method_6_code_0 15 rfl rfl) rfl (lv_at hl 0 rfl) ?_
  refine lv_iconst (v := iI 1) hx hb (D_4 W_prog_10_method_6_code_0 16 rfl rfl) rfl ?_
  refine lv_aload_n hx hb (D_42 W_prog_10_method_6_code_0 17 rfl rfl) rfl (lv_at hl 0 rfl) ?_
  obtain ⟨g8, hf⟩ := gif hf
  refine zget (ci := 8) (C := RX8) (T := TX8) (v := .int (iI (F 8 l0 5))) (k := 5) hx hb hts inW_8 hown hK hZ g8.1 g8.2 rfl (by decide) k_7_229 rfl (D_180 W_prog_10_method_6_code_0 18 rfl rfl rfl) ?_
  refine lv_iconst (v := iI 1) hx hb (D_4 W_prog_10_method_6_code_0 21 rfl rfl) rfl ?_
  refine zsub hx hb (D_100 W_prog_10_method_6_code_0 22 rfl rfl) ?_
  obtain ⟨r9, F9, B9, hc9, hf⟩ := gbind hf
  refine va_callv (va_runV (As := [.int (iI 1), .int (iI ((F 8 l0 5) - 1))]) (rest := []) ⟨hx, hb, hml, hown, hts⟩ (c_SoundFile_refuse (l := l) hc9) (cwV 2 hts (gdV k_8_53 k_8_55 ks_96 k_1_23 k_8_56) rfl rfl rfl (by decide +kernel) ⟨Nat.le_of_ble_eq_true rfl, Nat.le_of_ble_eq_true rfl⟩) (zPV X hZ hS (ci := 8) g8.1 g8.2 (r := (RX8, TX8, 15)) rfl [.int (iI 1), .int (iI ((F 8 l0 5) - 1))]) rfl rfl hl.1 rfl (lv_room (Nat.le_of_ble_eq_true rfl)) (D_182 W_prog_10_method_6_code_0 23 rfl rfl rfl) ⟨Nat.le_of_ble_eq_true rfl, Nat.le_of_ble_eq_true rfl⟩) hS (fun q _ h => zAin X hS q h) (zAin X hS) (fun u9 t9 H9 locs9 ht9 hv9 hw9 hB9 hz9 hk9 hS9 => ?_)
  have hZ9 := zBack X ht9 hB9
  exact b_SoundFile_takeOnly_26 X hf hZ9 hS9 (lv_sub hl [] rfl)

def f_SoundFile_takeOnly (K : zK) (l0 : Int) (l1 : Int) (l2 : Int) (F : zF) (B : zB) : zO := if 0 ≤ l0 ∧ l0 < K.2 8 then zbind (f_SoundFile_take K l0 F B) (fun r2 F2 B2 => if r32 r2 then if r32 l1 then (if r2 < l1 then f_SoundFile_takeOnly_15 K l0 F2 B2 else if r32 l2 then (if r2 ≤ l2 then f_SoundFile_takeOnly_26 K F2 B2 else f_SoundFile_takeOnly_15 K l0 F2 B2) else none) else none else none) else none
set_option maxHeartbeats 4000000 in
set_option maxRecDepth 100000 in
theorem c_SoundFile_takeOnly {l : Launch} {D : va_G} {ca : Nat → ClassId} {ad : Nat → Int → Nat → Nat} {L : List Nat} {aS vS : Nat → Nat} {sz : Nat} {K : zK}  {l0 : Int} {l1 : Int} {l2 : Int} {F F9 : zF} {B B9 : zB} {r : Int} (hf : f_SoundFile_takeOnly K l0 l1 l2 F B = some (r, F9, B9)) : Met l ({ cls := "StaveHouse$SoundFile", name := "takeOnly", desc := "(II)V" } : Jvm.MethodName) (Cond.code ({ cls := "StaveHouse$SoundFile", name := "takeOnly", desc := "(II)V" } : Jvm.MethodName) prog_10_method_6_code 4 (Option.none : Option Jvm.ClassFile.FieldType) :: wAll) ({ frames := 2, cells := 0, slots := 0, locals := 42 } : Room) (va_Pc [.ref (ad 8 l0 0), .int (iI l1), .int (iI l2)] (zPre D ca ad lnC K.2 L aS vS F B sz)) (Q_SoundFile_takeOnly K D ca ad L r F9 B9 (zA L sz)) 0 0 (zA L sz) := by
  refine zMet (Qc := Q_SoundFile_takeOnly K D ca ad L r F9 B9) (lv := [(0, .ref (ad 8 l0 0)), (1, .int (iI l1)), (2, .int (iI l2))]) (by decide) (Nat.le_of_ble_eq_true rfl) rfl (fun A p e s m below meth c ls X hZ hS hl => ?_)
  obtain ⟨hx, hb, hr, hml, hown, hts, hlk, hK, hA, hL, hX⟩ := id X
  replace hf : (if 0 ≤ l0 ∧ l0 < K.2 8 then zbind (f_SoundFile_take K l0 F B) (fun r2 F2 B2 => if r32 r2 then if r32 l1 then (if r2 < l1 then f_SoundFile_takeOnly_15 K l0 F2 B2 else if r32 l2 then (if r2 ≤ l2 then f_SoundFile_takeOnly_26 K F2 B2 else f_SoundFile_takeOnly_15 K l0 F2 B2) else none) else none else none) else none) = some (r, F9, B9) := hf
  refine lv_aload_n hx hb (D_42 W_prog_10_method_6_code_0 0 rfl rfl) rfl (lv_at hl 0 rfl) ?_
  obtain ⟨g1, hf⟩ := gif hf
  obtain ⟨r2, F2, B2, hc2, hf⟩ := gbind hf
  refine va_calli (va_runV (As := []) (rest := []) ⟨hx, hb, hml, hown, hts⟩ (c_SoundFile_take (l := l) hc2) (cwV 0 hts (gdV k_8_49 k_8_51 ks_95 k_1_23 k_8_52) rfl rfl rfl (by decide +kernel) ⟨Nat.le_of_ble_eq_true rfl, Nat.le_of_ble_eq_true rfl⟩) (zPV X hZ hS (ci := 8) g1.1 g1.2 (r := (RX8, TX8, 15)) rfl []) rfl rfl hl.1 rfl (lv_room (Nat.le_of_ble_eq_true rfl)) (D_182 W_prog_10_method_6_code_0 1 rfl rfl rfl) ⟨Nat.le_of_ble_eq_true rfl, Nat.le_of_ble_eq_true rfl⟩) hS (fun q _ h => zAin X hS q h) (zAin X hS) (fun p2 u2 t2 H2 locs2 ht2 hv2 hw2 hB2 hz2 hk2 hS2 => ?_)
  have hZ2 := zBack X ht2 hB2
  subst hw2
  refine lv_istore_n (lv' := [(3, .int (iI r2)), (0, .ref (ad 8 l0 0)), (1, .int (iI l1)), (2, .int (iI l2))]) hx hb (D_62 W_prog_10_method_6_code_0 4 rfl rfl) rfl hl (by decide) rfl (fun ls hl => ?_)
  refine lv_iload_n hx hb (D_29 W_prog_10_method_6_code_0 5 rfl rfl) rfl (lv_at hl 0 rfl) ?_
  refine lv_iload_n hx hb (D_27 W_prog_10_method_6_code_0 6 rfl rfl) rfl (lv_at hl 2 rfl) ?_
  obtain ⟨g3, hf⟩ := gif hf
  obtain ⟨g4, hf⟩ := gif hf
  refine zlt (tgt := 15) hx hb g3 g4 (D_161 W_prog_10_method_6_code_0 7 rfl rfl rfl) (by decide) (fun h5 => ?_) (fun h5 => ?_)
  · replace hf := gpos hf h5
    exact b_SoundFile_takeOnly_15 X hf hZ2 hS2 (lv_sub hl [1] rfl)
  · replace hf := gneg hf h5
    refine lv_iload_n hx hb (D_29 W_prog_10_method_6_code_0 10 rfl rfl) rfl (lv_at hl 0 rfl) ?_
    refine lv_iload_n hx hb (D_28 W_prog_10_method_6_code_0 11 rfl rfl) rfl (lv_at hl 3 rfl) ?_
    obtain ⟨g6, hf⟩ := gif hf
    refine zle (tgt := 26) hx hb g3 g6 (D_164 W_prog_10_method_6_code_0 12 rfl rfl rfl) (by decide) (fun h7 => ?_) (fun h7 => ?_)
    · replace hf := gpos hf h7
      exact b_SoundFile_takeOnly_26 X hf hZ2 hS2 (lv_sub hl [] rfl)
    · replace hf := gneg hf h7
      exact b_SoundFile_takeOnly_15 X hf hZ2 hS2 (lv_sub hl [1] rfl)

abbrev Q_SoundFile_loadMeta (K : zK) (D : va_G) (ca : Nat → ClassId) (ad : Nat → Int → Nat → Nat) (L : List Nat) (r : Int) (F : zF) (B : zB) (A : Nat → Prop) : Array Value → State → Outcome → State → Prop := va_Qv (S := Unit) (fun _ => True) (fun _ => zPo D ca ad lnC K.2 L F B A) A
def f_SoundFile_loadMeta_153 (K : zK) (s0 : Int) (s1 : Int) (F : zF) (B : zB) : zO := if 0 ≤ s0 ∧ s0 < K.2 8 then if (s1 = 0 ∨ s1 = 1) then some (0, (zup3 F 8 s0 11 s1), B) else none else none
set_option maxHeartbeats 4000000 in
set_option maxRecDepth 100000 in
theorem b_SoundFile_loadMeta_153 {D : va_G} {ca : Nat → ClassId} {ad : Nat → Int → Nat → Nat} {L : List Nat} {aS vS : Nat → Nat} {A : Nat → Prop} {p : Program} {l : Launch} {e : Env} {s : State} {m : MethodId} {args : Array Value} {below : List Frame} {meth : Method} {c : Code} {K : zK} {r : Int} {F9 : zF} {B9 : zB} (X : zX D ca L aS vS A p s m args meth c prog_10_method_18_code 6 (Option.none : Option Jvm.ClassFile.FieldType) "StaveHouse$SoundFile") {s0 : Int} {s1 : Int} {F : zF} {B : zB} {H : Heap} {locs : List Loc} {ls : Array Slot} (hf : f_SoundFile_loadMeta_153 K s0 s1 F B = some (r, F9, B9)) (hZ : zH D ca ad lnC K.2 L F B A H) (hS : va_S A s.heap H locs) (hl : lv_has ls 6 []) : W p l e ({ frames := 3, cells := 0, slots := 0, locals := 65 } : Room) s m args below meth c H locs 0 0 (MQ below (Q_SoundFile_loadMeta K D ca ad L r F9 B9 A) args s 0 0 A) (F0 m 153 ls [.int (iI s1), va_rf (zrf ad 8 s0)]) := by
  obtain ⟨hx, hb, hr, hml, hown, hts, hlk, hK, hA, hL, hX⟩ := id X
  replace hf : (if 0 ≤ s0 ∧ s0 < K.2 8 then if (s1 = 0 ∨ s1 = 1) then some (0, (zup3 F 8 s0 11 s1), B) else none else none) = some (r, F9, B9) := hf
  obtain ⟨g21, hf⟩ := gif hf
  refine W.eq (g2 := F0 m 153 ls [.int (iI s1), .ref (ad 8 s0 0)]) (by rw [zrf_pos (ad := ad) (t := 8) g21.1]; try rfl) ?_
  obtain ⟨g22, hf⟩ := gif hf
  refine zput (ci := 8) (C := RX8) (T := TX8) (k := 11) (v := s1) (w := .int (iI s1)) hx hb hts inW_8 tyX8 tyX8_ok nmX8 hown hK hZ hS g21.1 g21.2 rfl (by decide) k_7_235 rfl (fun G h => congrArg (fun q => Value.int (iI q)) h) (zbool g22) (zboolF g22) (zno (by decide)) (D_181 W_prog_10_method_18_code_128 25 rfl rfl rfl) (fun H23 locs23 hZ23 hS23 => ?_)
  cases hf
  exact W.vret hx hb hr (fun t ht hW => ⟨⟨(), rfl, trivial, by rw [ht]; exact hZ23, va_K.moved hW.alike hK⟩, hS23.F ht⟩) hS23.2.2 (D_177 W_prog_10_method_18_code_128 28 rfl rfl) hlk

def f_SoundFile_loadMeta_141 (K : zK) (l1 : Int) (l0 : Int) (F : zF) (B : zB) : zO := if r32 l1 then (if l1 = 47 then if 0 ≤ l0 ∧ l0 < K.2 8 then f_SoundFile_loadMeta_153 K l0 1 F B else none else if 0 ≤ l0 ∧ l0 < K.2 8 then f_SoundFile_loadMeta_153 K l0 0 F B else none) else none
set_option maxHeartbeats 4000000 in
set_option maxRecDepth 100000 in
theorem b_SoundFile_loadMeta_141 {D : va_G} {ca : Nat → ClassId} {ad : Nat → Int → Nat → Nat} {L : List Nat} {aS vS : Nat → Nat} {A : Nat → Prop} {p : Program} {l : Launch} {e : Env} {s : State} {m : MethodId} {args : Array Value} {below : List Frame} {meth : Method} {c : Code} {K : zK} {r : Int} {F9 : zF} {B9 : zB} (X : zX D ca L aS vS A p s m args meth c prog_10_method_18_code 6 (Option.none : Option Jvm.ClassFile.FieldType) "StaveHouse$SoundFile") {l1 : Int} {l0 : Int} {F : zF} {B : zB} {H : Heap} {locs : List Loc} {ls : Array Slot} (hf : f_SoundFile_loadMeta_141 K l1 l0 F B = some (r, F9, B9)) (hZ : zH D ca ad lnC K.2 L F B A H) (hS : va_S A s.heap H locs) (hl : lv_has ls 6 [(1, .int (iI l1)), (0, .ref (ad 8 l0 0))]) : W p l e ({ frames := 3, cells := 0, slots := 0, locals := 65 } : Room) s m args below meth c H locs 0 0 (MQ below (Q_SoundFile_loadMeta K D ca ad L r F9 B9 A) args s 0 0 A) (F0 m 141 ls []) := by
  obtain ⟨hx, hb, hr, hml, hown, hts, hlk, hK, hA, hL, hX⟩ := id X
  replace hf : (if r32 l1 then (if l1 = 47 then if 0 ≤ l0 ∧ l0 < K.2 8 then f_SoundFile_loadMeta_153 K l0 1 F B else none else if 0 ≤ l0 ∧ l0 < K.2 8 then f_SoundFile_loadMeta_153 K l0 0 F B else none) else none) = some (r, F9, B9) := hf
  refine lv_aload_n hx hb (D_42 W_prog_10_method_18_code_128 13 rfl rfl) rfl (lv_at hl 1 rfl) ?_
  refine lv_iload_n hx hb (D_27 W_prog_10_method_18_code_128 14 rfl rfl) rfl (lv_at hl 0 rfl) ?_
  refine lv_bipush (v := iI 47) hx hb (D_16 W_prog_10_method_18_code_128 15 rfl rfl rfl) (by decide) ?_
  obtain ⟨g17, hf⟩ := gif hf
  refine zne (tgt := 152) hx hb g17 (by decide) (D_160 W_prog_10_method_18_code_128 17 rfl rfl rfl) (by decide) (fun h18 => ?_) (fun h18 => ?_)
  · replace hf := gneg hf h18
    refine lv_iconst (v := iI 0) hx hb (D_3 W_prog_10_method_18_code_128 24 rfl rfl) rfl ?_
    obtain ⟨g19, hf⟩ := gif hf
    refine W.eq (g2 := F0 m 153 ls [.int (iI 0), va_rf (zrf ad 8 l0)]) (by rw [zrf_pos (ad := ad) (t := 8) g19.1]; try rfl) ?_
    exact b_SoundFile_loadMeta_153 X hf hZ hS (lv_sub hl [] rfl)
  · replace hf := gpos hf h18
    refine lv_iconst (v := iI 1) hx hb (D_4 W_prog_10_method_18_code_128 20 rfl rfl) rfl ?_
    refine lv_goto (tgt := 153) hx hb (D_167 W_prog_10_method_18_code_128 21 rfl rfl rfl) (by decide) ?_
    obtain ⟨g20, hf⟩ := gif hf
    refine W.eq (g2 := F0 m 153 ls [.int (iI 1), va_rf (zrf ad 8 l0)]) (by rw [zrf_pos (ad := ad) (t := 8) g20.1]; try rfl) ?_
    exact b_SoundFile_loadMeta_153 X hf hZ hS (lv_sub hl [] rfl)

def f_SoundFile_loadMeta_103 (K : zK) (l5 : Int) (l4 : Int) (l3 : Int) (l2 : Int) (l1 : Int) (l0 : Int) (F : zF) (B : zB) : zO := if r32 l1 then (if l1 = 81 then if r32 l2 then (if l2 = 3 then if 0 ≤ l0 ∧ l0 < K.2 8 then if 0 ≤ (F 8 l0 4) ∧ (F 8 l0 4) < K.2 0 then zbind (f_ByteRow_at K (F 8 l0 4) (l3 + 2) F B) (fun r37 F37 B37 => zbind (f_SoundFile_tellTempo K l0 (((65536 * l4) + (256 * l5)) + r37) F37 B37) (fun r38 F38 B38 => f_SoundFile_loadMeta_141 K l1 l0 F38 B38)) else none else none else f_SoundFile_loadMeta_141 K l1 l0 F B) else none else f_SoundFile_loadMeta_141 K l1 l0 F B) else none
set_option maxHeartbeats 4000000 in
set_option maxRecDepth 100000 in
theorem b_SoundFile_loadMeta_103 {D : va_G} {ca : Nat → ClassId} {ad : Nat → Int → Nat → Nat} {L : List Nat} {aS vS : Nat → Nat} {A : Nat → Prop} {p : Program} {l : Launch} {e : Env} {s : State} {m : MethodId} {args : Array Value} {below : List Frame} {meth : Method} {c : Code} {K : zK} {r : Int} {F9 : zF} {B9 : zB} (X : zX D ca L aS vS A p s m args meth c prog_10_method_18_code 6 (Option.none : Option Jvm.ClassFile.FieldType) "StaveHouse$SoundFile") {l5 : Int} {l4 : Int} {l3 : Int} {l2 : Int} {l1 : Int} {l0 : Int} {F : zF} {B : zB} {H : Heap} {locs : List Loc} {ls : Array Slot} (hf : f_SoundFile_loadMeta_103 K l5 l4 l3 l2 l1 l0 F B = some (r, F9, B9)) (hZ : zH D ca ad lnC K.2 L F B A H) (hS : va_S A s.heap H locs) (hl : lv_has ls 6 [(5, .int (iI l5)), (4, .int (iI l4)), (3, .int (iI l3)), (2, .int (iI l2)), (1, .int (iI l1)), (0, .ref (ad 8 l0 0))]) : W p l e ({ frames := 3, cells := 0, slots := 0, locals := 65 } : Room) s m args below meth c H locs 0 0 (MQ below (Q_SoundFile_loadMeta K D ca ad L r F9 B9 A) args s 0 0 A) (F0 m 103 ls []) := by
  obtain ⟨hx, hb, hr, hml, hown, hts, hlk, hK, hA, hL, hX⟩ := id X
  replace hf : (if r32 l1 then (if l1 = 81 then if r32 l2 then (if l2 = 3 then if 0 ≤ l0 ∧ l0 < K.2 8 then if 0 ≤ (F 8 l0 4) ∧ (F 8 l0 4) < K.2 0 then zbind (f_ByteRow_at K (F 8 l0 4) (l3 + 2) F B) (fun r37 F37 B37 => zbind (f_SoundFile_tellTempo K l0 (((65536 * l4) + (256 * l5)) + r37) F37 B37) (fun r38 F38 B38 => f_SoundFile_loadMeta_141 K l1 l0 F38 B38)) else none else none else f_SoundFile_loadMeta_141 K l1 l0 F B) else none else f_SoundFile_loadMeta_141 K l1 l0 F B) else none) = some (r, F9, B9) := hf
  refine lv_iload_n hx hb (D_27 W_prog_10_method_18_code_96 7 rfl rfl) rfl (lv_at hl 4 rfl) ?_
  refine lv_bipush (v := iI 81) hx hb (D_16 W_prog_10_method_18_code_96 8 rfl rfl rfl) (by decide) ?_
  obtain ⟨g30, hf⟩ := gif hf
  refine zne (tgt := 141) hx hb g30 (by decide) (D_160 W_prog_10_method_18_code_96 10 rfl rfl rfl) (by decide) (fun h31 => ?_) (fun h31 => ?_)
  · replace hf := gneg hf h31
    exact b_SoundFile_loadMeta_141 X hf hZ hS (lv_sub hl [4, 5] rfl)
  · replace hf := gpos hf h31
    refine lv_iload_n hx hb (D_28 W_prog_10_method_18_code_96 13 rfl rfl) rfl (lv_at hl 3 rfl) ?_
    refine lv_iconst (v := iI 3) hx hb (D_6 W_prog_10_method_18_code_96 14 rfl rfl) rfl ?_
    obtain ⟨g33, hf⟩ := gif hf
    refine zne (tgt := 141) hx hb g33 (by decide) (D_160 W_prog_10_method_18_code_96 15 rfl rfl rfl) (by decide) (fun h34 => ?_) (fun h34 => ?_)
    · replace hf := gneg hf h34
      exact b_SoundFile_loadMeta_141 X hf hZ hS (lv_sub hl [4, 5] rfl)
    · replace hf := gpos hf h34
      refine lv_aload_n hx hb (D_42 W_prog_10_method_18_code_96 18 rfl rfl) rfl (lv_at hl 5 rfl) ?_
      refine lv_ldc hx hb hown (hts _ k_8_105) (D_18 W_prog_10_method_18_code_96 19 rfl rfl) ?_
      refine W.eq (g2 := F0 m 117 ls [.int (iI 65536), .ref (ad 8 l0 0)]) rfl ?_
      refine lv_iload hx hb (D_21 W_prog_10_method_18_code_96 21 rfl rfl) (lv_at hl 1 rfl) ?_
      refine zmul hx hb (D_104 W_prog_10_method_18_code_96 23 rfl rfl) ?_
      refine lv_sipush (v := iI 256) hx hb (D_17 W_prog_10_method_18_code_96 24 rfl rfl rfl) (by decide) ?_
      refine lv_iload hx hb (D_21 W_prog_10_method_18_code_96 27 rfl rfl) (lv_at hl 0 rfl) ?_
      refine zmul hx hb (D_104 W_prog_10_method_18_code_96 29 rfl rfl) ?_
      refine zadd hx hb (D_96 W_prog_10_method_18_code_96 30 rfl rfl) ?_
      refine lv_aload_n hx hb (D_42 W_prog_10_method_18_code_96 31 rfl rfl) rfl (lv_at hl 5 rfl) ?_
      obtain ⟨g35, hf⟩ := gif hf
      refine zget (ci := 8) (C := RX8) (T := TX8) (v := va_rf (zrf ad 0 (F 8 l0 4))) (k := 4) hx hb hts inW_8 hown hK hZ g35.1 g35.2 rfl (by decide) k_7_228 rfl (D_180 W_prog_10_method_18_code_128 0 rfl rfl rfl) ?_
      refine lv_iload_n hx hb (D_29 W_prog_10_method_18_code_128 3 rfl rfl) rfl (lv_at hl 2 rfl) ?_
      refine lv_iconst (v := iI 2) hx hb (D_5 W_prog_10_method_18_code_128 4 rfl rfl) rfl ?_
      refine zadd hx hb (D_96 W_prog_10_method_18_code_128 5 rfl rfl) ?_
      obtain ⟨g36, hf⟩ := gif hf
      refine W.eq (g2 := F0 m 134 ls [.int (iI (l3 + 2)), .ref (ad 0 (F 8 l0 4) 0), .int (iI ((65536 * l4) + (256 * l5))), .ref (ad 8 l0 0)]) (by rw [zrf_pos (ad := ad) (t := 0) g36.1]; try rfl) ?_
      obtain ⟨r37, F37, B37, hc37, hf⟩ := gbind hf
      refine va_calli (va_runV (As := [.int (iI (l3 + 2))]) (rest := [.int (iI ((65536 * l4) + (256 * l5))), .ref (ad 8 l0 0)]) ⟨hx, hb, hml, hown, hts⟩ (c_ByteRow_at (l := l) hc37) (cwV 1 hts (gdV k_8_57 k_3_35 k_3_36 k_1_2 k_3_37) rfl rfl rfl (by decide +kernel) ⟨Nat.le_of_ble_eq_true rfl, Nat.le_of_ble_eq_true rfl⟩) (zPV X hZ hS (ci := 0) g36.1 g36.2 (r := (RX0, TX0, 3)) rfl [.int (iI (l3 + 2))]) rfl rfl hl.1 rfl (lv_room (Nat.le_of_ble_eq_true rfl)) (D_182 W_prog_10_method_18_code_128 6 rfl rfl rfl) ⟨Nat.le_of_ble_eq_true rfl, Nat.le_of_ble_eq_true rfl⟩) hS (fun q _ h => zAin X hS q h) (zAin X hS) (fun p37 u37 t37 H37 locs37 ht37 hv37 hw37 hB37 hz37 hk37 hS37 => ?_)
      have hZ37 := zBack X ht37 hB37
      subst hw37
      refine zadd hx hb (D_96 W_prog_10_method_18_code_128 9 rfl rfl) ?_
      obtain ⟨r38, F38, B38, hc38, hf⟩ := gbind hf
      refine va_callv (va_runV (As := [.int (iI (((65536 * l4) + (256 * l5)) + r37))]) (rest := []) ⟨hx, hb, hml, hown, hts⟩ (c_SoundFile_tellTempo (l := l) hc38) (cwV 1 hts (gdV k_8_106 k_8_108 ks_107 k_1_23 k_8_109) rfl rfl rfl (by decide +kernel) ⟨Nat.le_of_ble_eq_true rfl, Nat.le_of_ble_eq_true rfl⟩) (zPV X hZ37 hS37 (ci := 8) g35.1 g35.2 (r := (RX8, TX8, 15)) rfl [.int (iI (((65536 * l4) + (256 * l5)) + r37))]) rfl rfl hl.1 rfl (lv_room (Nat.le_of_ble_eq_true rfl)) (D_182 W_prog_10_method_18_code_128 10 rfl rfl rfl) ⟨Nat.le_of_ble_eq_true rfl, Nat.le_of_ble_eq_true rfl⟩) hS37 (fun q _ h => zAin X hS37 q h) (zAin X hS37) (fun u38 t38 H38 locs38 ht38 hv38 hw38 hB38 hz38 hk38 hS38 => ?_)
      have hZ38 := zBack X ht38 hB38
      exact b_SoundFile_loadMeta_141 X hf hZ38 hS38 (lv_sub hl [4, 5] rfl)

def f_SoundFile_loadMeta_80 (K : zK) (l5 : Int) (l4 : Int) (l3 : Int) (l2 : Int) (l1 : Int) (l0 : Int) (F : zF) (B : zB) : zO := if r32 l1 then (if l1 = 89 then if r32 l2 then (if l2 < 2 then f_SoundFile_loadMeta_103 K l5 l4 l3 l2 l1 l0 F B else if 0 ≤ l0 ∧ l0 < K.2 8 then zbind (f_SoundFile_tellKey K l0 (zi2b l4) l5 F B) (fun r29 F29 B29 => f_SoundFile_loadMeta_141 K l1 l0 F29 B29) else none) else none else f_SoundFile_loadMeta_103 K l5 l4 l3 l2 l1 l0 F B) else none
set_option maxHeartbeats 4000000 in
set_option maxRecDepth 100000 in
theorem b_SoundFile_loadMeta_80 {D : va_G} {ca : Nat → ClassId} {ad : Nat → Int → Nat → Nat} {L : List Nat} {aS vS : Nat → Nat} {A : Nat → Prop} {p : Program} {l : Launch} {e : Env} {s : State} {m : MethodId} {args : Array Value} {below : List Frame} {meth : Method} {c : Code} {K : zK} {r : Int} {F9 : zF} {B9 : zB} (X : zX D ca L aS vS A p s m args meth c prog_10_method_18_code 6 (Option.none : Option Jvm.ClassFile.FieldType) "StaveHouse$SoundFile") {l5 : Int} {l4 : Int} {l3 : Int} {l2 : Int} {l1 : Int} {l0 : Int} {F : zF} {B : zB} {H : Heap} {locs : List Loc} {ls : Array Slot} (hf : f_SoundFile_loadMeta_80 K l5 l4 l3 l2 l1 l0 F B = some (r, F9, B9)) (hZ : zH D ca ad lnC K.2 L F B A H) (hS : va_S A s.heap H locs) (hl : lv_has ls 6 [(5, .int (iI l5)), (4, .int (iI l4)), (3, .int (iI l3)), (2, .int (iI l2)), (1, .int (iI l1)), (0, .ref (ad 8 l0 0))]) : W p l e ({ frames := 3, cells := 0, slots := 0, locals := 65 } : Room) s m args below meth c H locs 0 0 (MQ below (Q_SoundFile_loadMeta K D ca ad L r F9 B9 A) args s 0 0 A) (F0 m 80 ls []) := by
  obtain ⟨hx, hb, hr, hml, hown, hts, hlk, hK, hA, hL, hX⟩ := id X
  replace hf : (if r32 l1 then (if l1 = 89 then if r32 l2 then (if l2 < 2 then f_SoundFile_loadMeta_103 K l5 l4 l3 l2 l1 l0 F B else if 0 ≤ l0 ∧ l0 < K.2 8 then zbind (f_SoundFile_tellKey K l0 (zi2b l4) l5 F B) (fun r29 F29 B29 => f_SoundFile_loadMeta_141 K l1 l0 F29 B29) else none) else none else f_SoundFile_loadMeta_103 K l5 l4 l3 l2 l1 l0 F B) else none) = some (r, F9, B9) := hf
  refine lv_iload_n hx hb (D_27 W_prog_10_method_18_code_64 16 rfl rfl) rfl (lv_at hl 4 rfl) ?_
  refine lv_bipush (v := iI 89) hx hb (D_16 W_prog_10_method_18_code_64 17 rfl rfl rfl) (by decide) ?_
  obtain ⟨g24, hf⟩ := gif hf
  refine zne (tgt := 103) hx hb g24 (by decide) (D_160 W_prog_10_method_18_code_64 19 rfl rfl rfl) (by decide) (fun h25 => ?_) (fun h25 => ?_)
  · replace hf := gneg hf h25
    exact b_SoundFile_loadMeta_103 X hf hZ hS (lv_sub hl [0, 1, 2, 3, 4, 5] rfl)
  · replace hf := gpos hf h25
    refine lv_iload_n hx hb (D_28 W_prog_10_method_18_code_64 22 rfl rfl) rfl (lv_at hl 3 rfl) ?_
    refine lv_iconst (v := iI 2) hx hb (D_5 W_prog_10_method_18_code_64 23 rfl rfl) rfl ?_
    obtain ⟨g26, hf⟩ := gif hf
    refine zlt (tgt := 103) hx hb g26 (by decide) (D_161 W_prog_10_method_18_code_64 24 rfl rfl rfl) (by decide) (fun h27 => ?_) (fun h27 => ?_)
    · replace hf := gpos hf h27
      exact b_SoundFile_loadMeta_103 X hf hZ hS (lv_sub hl [0, 1, 2, 3, 4, 5] rfl)
    · replace hf := gneg hf h27
      refine lv_aload_n hx hb (D_42 W_prog_10_method_18_code_64 27 rfl rfl) rfl (lv_at hl 5 rfl) ?_
      refine lv_iload hx hb (D_21 W_prog_10_method_18_code_64 28 rfl rfl) (lv_at hl 1 rfl) ?_
      refine zi2b_r hx hb (D_145 W_prog_10_method_18_code_64 30 rfl rfl) ?_
      refine lv_iload hx hb (D_21 W_prog_10_method_18_code_64 31 rfl rfl) (lv_at hl 0 rfl) ?_
      obtain ⟨g28, hf⟩ := gif hf
      obtain ⟨r29, F29, B29, hc29, hf⟩ := gbind hf
      refine va_callv (va_runV (As := [.int (iI (zi2b l4)), .int (iI l5)]) (rest := []) ⟨hx, hb, hml, hown, hts⟩ (c_SoundFile_tellKey (l := l) hc29) (cwV 2 hts (gdV k_8_100 k_8_102 ks_106 k_1_23 k_8_103) rfl rfl rfl (by decide +kernel) ⟨Nat.le_of_ble_eq_true rfl, Nat.le_of_ble_eq_true rfl⟩) (zPV X hZ hS (ci := 8) g28.1 g28.2 (r := (RX8, TX8, 15)) rfl [.int (iI (zi2b l4)), .int (iI l5)]) rfl rfl hl.1 rfl (lv_room (Nat.le_of_ble_eq_true rfl)) (D_182 W_prog_10_method_18_code_96 1 rfl rfl rfl) ⟨Nat.le_of_ble_eq_true rfl, Nat.le_of_ble_eq_true rfl⟩) hS (fun q _ h => zAin X hS q h) (zAin X hS) (fun u29 t29 H29 locs29 ht29 hv29 hw29 hB29 hz29 hk29 hS29 => ?_)
      have hZ29 := zBack X ht29 hB29
      refine lv_goto (tgt := 141) hx hb (D_167 W_prog_10_method_18_code_96 4 rfl rfl rfl) (by decide) ?_
      exact b_SoundFile_loadMeta_141 X hf hZ29 hS29 (lv_sub hl [4, 5] rfl)

def f_SoundFile_loadMeta_35 (K : zK)  (F : zF) (B : zB) : zO := some (0, F, B)
set_option maxHeartbeats 4000000 in
set_option maxRecDepth 100000 in
theorem b_SoundFile_loadMeta_35 {D : va_G} {ca : Nat → ClassId} {ad : Nat → Int → Nat → Nat} {L : List Nat} {aS vS : Nat → Nat} {A : Nat → Prop} {p : Program} {l : Launch} {e : Env} {s : State} {m : MethodId} {args : Array Value} {below : List Frame} {meth : Method} {c : Code} {K : zK} {r : Int} {F9 : zF} {B9 : zB} (X : zX D ca L aS vS A p s m args meth c prog_10_method_18_code 6 (Option.none : Option Jvm.ClassFile.FieldType) "StaveHouse$SoundFile")  {F : zF} {B : zB} {H : Heap} {locs : List Loc} {ls : Array Slot} (hf : f_SoundFile_loadMeta_35 K  F B = some (r, F9, B9)) (hZ : zH D ca ad lnC K.2 L F B A H) (hS : va_S A s.heap H locs) (hl : lv_has ls 6 []) : W p l e ({ frames := 3, cells := 0, slots := 0, locals := 65 } : Room) s m args below meth c H locs 0 0 (MQ below (Q_SoundFile_loadMeta K D ca ad L r F9 B9 A) args s 0 0 A) (F0 m 35 ls []) := by
  obtain ⟨hx, hb, hr, hml, hown, hts, hlk, hK, hA, hL, hX⟩ := id X
  replace hf : (some (0, F, B)) = some (r, F9, B9) := hf
  cases hf
  exact W.vret hx hb hr (fun t ht hW => ⟨⟨(), rfl, trivial, by rw [ht]; exact hZ, va_K.moved hW.alike hK⟩, hS.F ht⟩) hS.2.2 (D_177 W_prog_10_method_18_code_32 3 rfl rfl) hlk

def f_SoundFile_loadMeta (K : zK) (l0 : Int) (F : zF) (B : zB) : zO := if 0 ≤ l0 ∧ l0 < K.2 8 then zbind (f_SoundFile_takeData K l0 F B) (fun r2 F2 B2 => zbind (f_SoundFile_takeDelta K l0 F2 B2) (fun r3 F3 B3 => if r32 r3 then zbind (f_SoundFile_skip K l0 r3 F3 B3) (fun r5 F5 B5 => if r32 (F5 8 l0 7) then (if (F5 8 l0 7) = 0 then (if (F5 8 l0 4) < 0 then f_SoundFile_loadMeta_35 K F5 B5 else if 0 ≤ (F5 8 l0 4) ∧ (F5 8 l0 4) < K.2 0 then zbind (f_ByteRow_at K (F5 8 l0 4) (F3 8 l0 5) F5 B5) (fun r10 F10 B10 => if 0 ≤ (F10 8 l0 4) ∧ (F10 8 l0 4) < K.2 0 then zbind (f_ByteRow_at K (F10 8 l0 4) ((F3 8 l0 5) + 1) F10 B10) (fun r12 F12 B12 => if r32 r2 then (if r2 = 88 then (if r3 < 4 then f_SoundFile_loadMeta_80 K r12 r10 (F3 8 l0 5) r3 r2 l0 F12 B12 else zbind (f_SoundFile_tellTime K l0 r10 r12 F12 B12) (fun r16 F16 B16 => f_SoundFile_loadMeta_141 K r2 l0 F16 B16)) else f_SoundFile_loadMeta_80 K r12 r10 (F3 8 l0 5) r3 r2 l0 F12 B12) else none) else none) else none) else f_SoundFile_loadMeta_35 K F5 B5) else none) else none)) else none
set_option maxHeartbeats 4000000 in
set_option maxRecDepth 100000 in
theorem c_SoundFile_loadMeta {l : Launch} {D : va_G} {ca : Nat → ClassId} {ad : Nat → Int → Nat → Nat} {L : List Nat} {aS vS : Nat → Nat} {sz : Nat} {K : zK}  {l0 : Int} {F F9 : zF} {B B9 : zB} {r : Int} (hf : f_SoundFile_loadMeta K l0 F B = some (r, F9, B9)) : Met l ({ cls := "StaveHouse$SoundFile", name := "loadMeta", desc := "()V" } : Jvm.MethodName) (Cond.code ({ cls := "StaveHouse$SoundFile", name := "loadMeta", desc := "()V" } : Jvm.MethodName) prog_10_method_18_code 6 (Option.none : Option Jvm.ClassFile.FieldType) :: wAll) ({ frames := 3, cells := 0, slots := 0, locals := 65 } : Room) (va_Pc [.ref (ad 8 l0 0)] (zPre D ca ad lnC K.2 L aS vS F B sz)) (Q_SoundFile_loadMeta K D ca ad L r F9 B9 (zA L sz)) 0 0 (zA L sz) := by
  refine zMet (Qc := Q_SoundFile_loadMeta K D ca ad L r F9 B9) (lv := [(0, .ref (ad 8 l0 0))]) (by decide) (Nat.le_of_ble_eq_true rfl) rfl (fun A p e s m below meth c ls X hZ hS hl => ?_)
  obtain ⟨hx, hb, hr, hml, hown, hts, hlk, hK, hA, hL, hX⟩ := id X
  replace hf : (if 0 ≤ l0 ∧ l0 < K.2 8 then zbind (f_SoundFile_takeData K l0 F B) (fun r2 F2 B2 => zbind (f_SoundFile_takeDelta K l0 F2 B2) (fun r3 F3 B3 => if r32 r3 then zbind (f_SoundFile_skip K l0 r3 F3 B3) (fun r5 F5 B5 => if r32 (F5 8 l0 7) then (if (F5 8 l0 7) = 0 then (if (F5 8 l0 4) < 0 then f_SoundFile_loadMeta_35 K F5 B5 else if 0 ≤ (F5 8 l0 4) ∧ (F5 8 l0 4) < K.2 0 then zbind (f_ByteRow_at K (F5 8 l0 4) (F3 8 l0 5) F5 B5) (fun r10 F10 B10 => if 0 ≤ (F10 8 l0 4) ∧ (F10 8 l0 4) < K.2 0 then zbind (f_ByteRow_at K (F10 8 l0 4) ((F3 8 l0 5) + 1) F10 B10) (fun r12 F12 B12 => if r32 r2 then (if r2 = 88 then (if r3 < 4 then f_SoundFile_loadMeta_80 K r12 r10 (F3 8 l0 5) r3 r2 l0 F12 B12 else zbind (f_SoundFile_tellTime K l0 r10 r12 F12 B12) (fun r16 F16 B16 => f_SoundFile_loadMeta_141 K r2 l0 F16 B16)) else f_SoundFile_loadMeta_80 K r12 r10 (F3 8 l0 5) r3 r2 l0 F12 B12) else none) else none) else none) else f_SoundFile_loadMeta_35 K F5 B5) else none) else none)) else none) = some (r, F9, B9) := hf
  refine lv_aload_n hx hb (D_42 W_prog_10_method_18_code_0 0 rfl rfl) rfl (lv_at hl 0 rfl) ?_
  obtain ⟨g1, hf⟩ := gif hf
  obtain ⟨r2, F2, B2, hc2, hf⟩ := gbind hf
  refine va_calli (va_runV (As := []) (rest := []) ⟨hx, hb, hml, hown, hts⟩ (c_SoundFile_takeData (l := l) hc2) (cwV 0 hts (gdV k_8_92 k_8_94 ks_104 k_1_23 k_8_95) rfl rfl rfl (by decide +kernel) ⟨Nat.le_of_ble_eq_true rfl, Nat.le_of_ble_eq_true rfl⟩) (zPV X hZ hS (ci := 8) g1.1 g1.2 (r := (RX8, TX8, 15)) rfl []) rfl rfl hl.1 rfl (lv_room (Nat.le_of_ble_eq_true rfl)) (D_182 W_prog_10_method_18_code_0 1 rfl rfl rfl) ⟨Nat.le_of_ble_eq_true rfl, Nat.le_of_ble_eq_true rfl⟩) hS (fun q _ h => zAin X hS q h) (zAin X hS) (fun p2 u2 t2 H2 locs2 ht2 hv2 hw2 hB2 hz2 hk2 hS2 => ?_)
  have hZ2 := zBack X ht2 hB2
  subst hw2
  refine lv_istore_n (lv' := [(1, .int (iI r2)), (0, .ref (ad 8 l0 0))]) hx hb (D_60 W_prog_10_method_18_code_0 4 rfl rfl) rfl hl (by decide) rfl (fun ls hl => ?_)
  refine lv_aload_n hx hb (D_42 W_prog_10_method_18_code_0 5 rfl rfl) rfl (lv_at hl 1 rfl) ?_
  obtain ⟨r3, F3, B3, hc3, hf⟩ := gbind hf
  refine va_calli (va_runV (As := []) (rest := []) ⟨hx, hb, hml, hown, hts⟩ (c_SoundFile_takeDelta (l := l) hc3) (cwV 0 hts (gdV k_8_84 k_8_86 ks_102 k_1_23 k_8_87) rfl rfl rfl (by decide +kernel) ⟨Nat.le_of_ble_eq_true rfl, Nat.le_of_ble_eq_true rfl⟩) (zPV X hZ2 hS2 (ci := 8) g1.1 g1.2 (r := (RX8, TX8, 15)) rfl []) rfl rfl hl.1 rfl (lv_room (Nat.le_of_ble_eq_true rfl)) (D_182 W_prog_10_method_18_code_0 6 rfl rfl rfl) ⟨Nat.le_of_ble_eq_true rfl, Nat.le_of_ble_eq_true rfl⟩) hS2 (fun q _ h => zAin X hS2 q h) (zAin X hS2) (fun p3 u3 t3 H3 locs3 ht3 hv3 hw3 hB3 hz3 hk3 hS3 => ?_)
  have hZ3 := zBack X ht3 hB3
  subst hw3
  refine lv_istore_n (lv' := [(2, .int (iI r3)), (1, .int (iI r2)), (0, .ref (ad 8 l0 0))]) hx hb (D_61 W_prog_10_method_18_code_0 9 rfl rfl) rfl hl (by decide) rfl (fun ls hl => ?_)
  refine lv_aload_n hx hb (D_42 W_prog_10_method_18_code_0 10 rfl rfl) rfl (lv_at hl 2 rfl) ?_
  refine zget (ci := 8) (C := RX8) (T := TX8) (v := .int (iI (F3 8 l0 5))) (k := 5) hx hb hts inW_8 hown hK hZ3 g1.1 g1.2 rfl (by decide) k_7_229 rfl (D_180 W_prog_10_method_18_code_0 11 rfl rfl rfl) ?_
  refine lv_istore_n (lv' := [(3, .int (iI (F3 8 l0 5))), (2, .int (iI r3)), (1, .int (iI r2)), (0, .ref (ad 8 l0 0))]) hx hb (D_62 W_prog_10_method_18_code_0 14 rfl rfl) rfl hl (by decide) rfl (fun ls hl => ?_)
  refine lv_aload_n hx hb (D_42 W_prog_10_method_18_code_0 15 rfl rfl) rfl (lv_at hl 3 rfl) ?_
  refine lv_iload_n hx hb (D_28 W_prog_10_method_18_code_0 16 rfl rfl) rfl (lv_at hl 1 rfl) ?_
  obtain ⟨g4, hf⟩ := gif hf
  refine zi2l hx hb g4 (D_133 W_prog_10_method_18_code_0 17 rfl rfl) ?_
  obtain ⟨r5, F5, B5, hc5, hf⟩ := gbind hf
  refine va_callv (va_runV (As := [.long (lI r3)]) (rest := []) ⟨hx, hb, hml, hown, hts⟩ (c_SoundFile_skip (l := l) hc5) (cwV 1 hts (gdV k_8_70 k_8_72 ks_99 k_1_23 k_8_73) rfl rfl rfl (by decide +kernel) ⟨Nat.le_of_ble_eq_true rfl, Nat.le_of_ble_eq_true rfl⟩) (zPV X hZ3 hS3 (ci := 8) g1.1 g1.2 (r := (RX8, TX8, 15)) rfl [.long (lI r3)]) rfl rfl hl.1 rfl (lv_room (Nat.le_of_ble_eq_true rfl)) (D_182 W_prog_10_method_18_code_0 18 rfl rfl rfl) ⟨Nat.le_of_ble_eq_true rfl, Nat.le_of_ble_eq_true rfl⟩) hS3 (fun q _ h => zAin X hS3 q h) (zAin X hS3) (fun u5 t5 H5 locs5 ht5 hv5 hw5 hB5 hz5 hk5 hS5 => ?_)
  have hZ5 := zBack X ht5 hB5
  refine lv_aload_n hx hb (D_42 W_prog_10_method_18_code_0 21 rfl rfl) rfl (lv_at hl 3 rfl) ?_
  refine zget (ci := 8) (C := RX8) (T := TX8) (v := .int (iI (F5 8 l0 7))) (k := 7) hx hb hts inW_8 hown hK hZ5 g1.1 g1.2 rfl (by decide) k_7_231 rfl (D_180 W_prog_10_method_18_code_0 22 rfl rfl rfl) ?_
  obtain ⟨g6, hf⟩ := gif hf
  refine z0ne (tgt := 35) hx hb g6 (D_154 W_prog_10_method_18_code_0 25 rfl rfl rfl) (by decide) (fun h7 => ?_) (fun h7 => ?_)
  · replace hf := gneg hf h7
    exact b_SoundFile_loadMeta_35 X hf hZ5 hS5 (lv_sub hl [] rfl)
  · replace hf := gpos hf h7
    refine lv_aload_n hx hb (D_42 W_prog_10_method_18_code_0 28 rfl rfl) rfl (lv_at hl 3 rfl) ?_
    refine zget (ci := 8) (C := RX8) (T := TX8) (v := va_rf (zrf ad 0 (F5 8 l0 4))) (k := 4) hx hb hts inW_8 hown hK hZ5 g1.1 g1.2 rfl (by decide) k_7_228 rfl (D_180 W_prog_10_method_18_code_0 29 rfl rfl rfl) ?_
    refine zifnonnull (tgt := 36) hx hb (D_199 W_prog_10_method_18_code_32 0 rfl rfl rfl) (by decide) (fun h8 => ?_) (fun h8 => ?_)
    · replace hf := gneg hf h8
      refine lv_aload_n hx hb (D_42 W_prog_10_method_18_code_32 4 rfl rfl) rfl (lv_at hl 3 rfl) ?_
      refine zget (ci := 8) (C := RX8) (T := TX8) (v := va_rf (zrf ad 0 (F5 8 l0 4))) (k := 4) hx hb hts inW_8 hown hK hZ5 g1.1 g1.2 rfl (by decide) k_7_228 rfl (D_180 W_prog_10_method_18_code_32 5 rfl rfl rfl) ?_
      refine lv_iload_n hx hb (D_29 W_prog_10_method_18_code_32 8 rfl rfl) rfl (lv_at hl 0 rfl) ?_
      obtain ⟨g9, hf⟩ := gif hf
      refine W.eq (g2 := F0 m 41 ls [.int (iI (F3 8 l0 5)), .ref (ad 0 (F5 8 l0 4) 0)]) (by rw [zrf_pos (ad := ad) (t := 0) g9.1]; try rfl) ?_
      obtain ⟨r10, F10, B10, hc10, hf⟩ := gbind hf
      refine va_calli (va_runV (As := [.int (iI (F3 8 l0 5))]) (rest := []) ⟨hx, hb, hml, hown, hts⟩ (c_ByteRow_at (l := l) hc10) (cwV 1 hts (gdV k_8_57 k_3_35 k_3_36 k_1_2 k_3_37) rfl rfl rfl (by decide +kernel) ⟨Nat.le_of_ble_eq_true rfl, Nat.le_of_ble_eq_true rfl⟩) (zPV X hZ5 hS5 (ci := 0) g9.1 g9.2 (r := (RX0, TX0, 3)) rfl [.int (iI (F3 8 l0 5))]) rfl rfl hl.1 rfl (lv_room (Nat.le_of_ble_eq_true rfl)) (D_182 W_prog_10_method_18_code_32 9 rfl rfl rfl) ⟨Nat.le_of_ble_eq_true rfl, Nat.le_of_ble_eq_true rfl⟩) hS5 (fun q _ h => zAin X hS5 q h) (zAin X hS5) (fun p10 u10 t10 H10 locs10 ht10 hv10 hw10 hB10 hz10 hk10 hS10 => ?_)
      have hZ10 := zBack X ht10 hB10
      subst hw10
      refine lv_istore (lv' := [(4, .int (iI r10)), (3, .int (iI (F3 8 l0 5))), (2, .int (iI r3)), (1, .int (iI r2)), (0, .ref (ad 8 l0 0))]) hx hb (D_54 W_prog_10_method_18_code_32 12 rfl rfl) hl (by decide) rfl (fun ls hl => ?_)
      refine lv_aload_n hx hb (D_42 W_prog_10_method_18_code_32 14 rfl rfl) rfl (lv_at hl 4 rfl) ?_
      refine zget (ci := 8) (C := RX8) (T := TX8) (v := va_rf (zrf ad 0 (F10 8 l0 4))) (k := 4) hx hb hts inW_8 hown hK hZ10 g1.1 g1.2 rfl (by decide) k_7_228 rfl (D_180 W_prog_10_method_18_code_32 15 rfl rfl rfl) ?_
      refine lv_iload_n hx hb (D_29 W_prog_10_method_18_code_32 18 rfl rfl) rfl (lv_at hl 1 rfl) ?_
      refine lv_iconst (v := iI 1) hx hb (D_4 W_prog_10_method_18_code_32 19 rfl rfl) rfl ?_
      refine zadd hx hb (D_96 W_prog_10_method_18_code_32 20 rfl rfl) ?_
      obtain ⟨g11, hf⟩ := gif hf
      refine W.eq (g2 := F0 m 53 ls [.int (iI ((F3 8 l0 5) + 1)), .ref (ad 0 (F10 8 l0 4) 0)]) (by rw [zrf_pos (ad := ad) (t := 0) g11.1]; try rfl) ?_
      obtain ⟨r12, F12, B12, hc12, hf⟩ := gbind hf
      refine va_calli (va_runV (As := [.int (iI ((F3 8 l0 5) + 1))]) (rest := []) ⟨hx, hb, hml, hown, hts⟩ (c_ByteRow_at (l := l) hc12) (cwV 1 hts (gdV k_8_57 k_3_35 k_3_36 k_1_2 k_3_37) rfl rfl rfl (by decide +kernel) ⟨Nat.le_of_ble_eq_true rfl, Nat.le_of_ble_eq_true rfl⟩) (zPV X hZ10 hS10 (ci := 0) g11.1 g11.2 (r := (RX0, TX0, 3)) rfl [.int (iI ((F3 8 l0 5) + 1))]) rfl rfl hl.1 rfl (lv_room (Nat.le_of_ble_eq_true rfl)) (D_182 W_prog_10_method_18_code_32 21 rfl rfl rfl) ⟨Nat.le_of_ble_eq_true rfl, Nat.le_of_ble_eq_true rfl⟩) hS10 (fun q _ h => zAin X hS10 q h) (zAin X hS10) (fun p12 u12 t12 H12 locs12 ht12 hv12 hw12 hB12 hz12 hk12 hS12 => ?_)
      have hZ12 := zBack X ht12 hB12
      subst hw12
      refine lv_istore (lv' := [(5, .int (iI r12)), (4, .int (iI r10)), (3, .int (iI (F3 8 l0 5))), (2, .int (iI r3)), (1, .int (iI r2)), (0, .ref (ad 8 l0 0))]) hx hb (D_54 W_prog_10_method_18_code_32 24 rfl rfl) hl (by decide) rfl (fun ls hl => ?_)
      refine lv_iload_n hx hb (D_27 W_prog_10_method_18_code_32 26 rfl rfl) rfl (lv_at hl 4 rfl) ?_
      refine lv_bipush (v := iI 88) hx hb (D_16 W_prog_10_method_18_code_32 27 rfl rfl rfl) (by decide) ?_
      obtain ⟨g13, hf⟩ := gif hf
      refine zne (tgt := 80) hx hb g13 (by decide) (D_160 W_prog_10_method_18_code_32 29 rfl rfl rfl) (by decide) (fun h14 => ?_) (fun h14 => ?_)
      · replace hf := gneg hf h14
        exact b_SoundFile_loadMeta_80 X hf hZ12 hS12 (lv_sub hl [0, 1, 2, 3, 4, 5] rfl)
      · replace hf := gpos hf h14
        refine lv_iload_n hx hb (D_28 W_prog_10_method_18_code_64 0 rfl rfl) rfl (lv_at hl 3 rfl) ?_
        refine lv_iconst (v := iI 4) hx hb (D_7 W_prog_10_method_18_code_64 1 rfl rfl) rfl ?_
        refine zlt (tgt := 80) hx hb g4 (by decide) (D_161 W_prog_10_method_18_code_64 2 rfl rfl rfl) (by decide) (fun h15 => ?_) (fun h15 => ?_)
        · replace hf := gpos hf h15
          exact b_SoundFile_loadMeta_80 X hf hZ12 hS12 (lv_sub hl [0, 1, 2, 3, 4, 5] rfl)
        · replace hf := gneg hf h15
          refine lv_aload_n hx hb (D_42 W_prog_10_method_18_code_64 5 rfl rfl) rfl (lv_at hl 5 rfl) ?_
          refine lv_iload hx hb (D_21 W_prog_10_method_18_code_64 6 rfl rfl) (lv_at hl 1 rfl) ?_
          refine lv_iload hx hb (D_21 W_prog_10_method_18_code_64 8 rfl rfl) (lv_at hl 0 rfl) ?_
          obtain ⟨r16, F16, B16, hc16, hf⟩ := gbind hf
          refine va_callv (va_runV (As := [.int (iI r10), .int (iI r12)]) (rest := []) ⟨hx, hb, hml, hown, hts⟩ (c_SoundFile_tellTime (l := l) hc16) (cwV 2 hts (gdV k_8_96 k_8_98 ks_105 k_1_23 k_8_99) rfl rfl rfl (by decide +kernel) ⟨Nat.le_of_ble_eq_true rfl, Nat.le_of_ble_eq_true rfl⟩) (zPV X hZ12 hS12 (ci := 8) g1.1 g1.2 (r := (RX8, TX8, 15)) rfl [.int (iI r10), .int (iI r12)]) rfl rfl hl.1 rfl (lv_room (Nat.le_of_ble_eq_true rfl)) (D_182 W_prog_10_method_18_code_64 10 rfl rfl rfl) ⟨Nat.le_of_ble_eq_true rfl, Nat.le_of_ble_eq_true rfl⟩) hS12 (fun q _ h => zAin X hS12 q h) (zAin X hS12) (fun u16 t16 H16 locs16 ht16 hv16 hw16 hB16 hz16 hk16 hS16 => ?_)
          have hZ16 := zBack X ht16 hB16
          refine lv_goto (tgt := 141) hx hb (D_167 W_prog_10_method_18_code_64 13 rfl rfl rfl) (by decide) ?_
          exact b_SoundFile_loadMeta_141 X hf hZ16 hS16 (lv_sub hl [4, 5] rfl)
    · replace hf := gpos hf h8
      exact b_SoundFile_loadMeta_35 X hf hZ5 hS5 (lv_sub hl [] rfl)

abbrev Q_Scribe_lastPlace (K : zK) (D : va_G) (ca : Nat → ClassId) (ad : Nat → Int → Nat → Nat) (L : List Nat) (r : Int) (F : zF) (B : zB) (A : Nat → Prop) : Array Value → State → Outcome → State → Prop := va_Ql (S := Unit) (fun p _ => p = lI r) (fun _ => zPo D ca ad lnC K.2 L F B A) A
def f_Scribe_lastPlace_101 (K : zK) (l1 : Int) (F : zF) (B : zB) : zO := some (l1, F, B)
set_option maxHeartbeats 4000000 in
set_option maxRecDepth 100000 in
theorem b_Scribe_lastPlace_101 {D : va_G} {ca : Nat → ClassId} {ad : Nat → Int → Nat → Nat} {L : List Nat} {aS vS : Nat → Nat} {A : Nat → Prop} {p : Program} {l : Launch} {e : Env} {s : State} {m : MethodId} {args : Array Value} {below : List Frame} {meth : Method} {c : Code} {K : zK} {r : Int} {F9 : zF} {B9 : zB} (X : zX D ca L aS vS A p s m args meth c prog_9_method_5_code 7 (Option.some Jvm.ClassFile.FieldType.long) "StaveHouse$Scribe") {l1 : Int} {F : zF} {B : zB} {H : Heap} {locs : List Loc} {ls : Array Slot} (hf : f_Scribe_lastPlace_101 K l1 F B = some (r, F9, B9)) (hZ : zH D ca ad lnC K.2 L F B A H) (hS : va_S A s.heap H locs) (hl : lv_has ls 7 [(1, .long (lI l1))]) : W p l e ({ frames := 3, cells := 0, slots := 0, locals := 60 } : Room) s m args below meth c H locs 0 0 (MQ below (Q_Scribe_lastPlace K D ca ad L r F9 B9 A) args s 0 0 A) (F0 m 101 ls []) := by
  obtain ⟨hx, hb, hr, hml, hown, hts, hlk, hK, hA, hL, hX⟩ := id X
  replace hf : (some (l1, F, B)) = some (r, F9, B9) := hf
  refine lv_lload_n hx hb (D_31 W_prog_9_method_5_code_96 5 rfl rfl) rfl (lv_at hl 0 rfl) ?_
  cases hf
  exact W.lret hx hb hr (fun t ht hW => ⟨⟨_, (), rfl, rfl, by rw [ht]; exact hZ, va_K.moved hW.alike hK⟩, hS.F ht⟩) hS.2.2 (D_173 W_prog_9_method_5_code_96 6 rfl rfl) hlk

def f_Scribe_lastPlace_78 (rec7 : Int → Int → Int → Int → zF → zB → zO) (K : zK) (l4 : Int) (l3 : Int) (l1 : Int) (l0 : Int) (F : zF) (B : zB) : zO := if 0 ≤ l0 ∧ l0 < K.2 7 then if r64 l1 then if r64 (F 7 l0 6) then zbind (f_Scribe_trackEnd K l0 l4 F B) (fun r22 F22 B22 => rec7 r22 (l3 + 1) (zmax l1 (F 7 l0 6)) l0 F22 B22) else none else none else none
set_option maxHeartbeats 4000000 in
set_option maxRecDepth 100000 in
theorem b_Scribe_lastPlace_78 {D : va_G} {ca : Nat → ClassId} {ad : Nat → Int → Nat → Nat} {L : List Nat} {aS vS : Nat → Nat} {A : Nat → Prop} {p : Program} {l : Launch} {e : Env} {s : State} {m : MethodId} {args : Array Value} {below : List Frame} {meth : Method} {c : Code} {K : zK} {r : Int} {F9 : zF} {B9 : zB} (X : zX D ca L aS vS A p s m args meth c prog_9_method_5_code 7 (Option.some Jvm.ClassFile.FieldType.long) "StaveHouse$Scribe") {rec7 : Int → Int → Int → Int → zF → zB → zO} (hrec7 : ∀ {l4 : Int} {l3 : Int} {l1 : Int} {l0 : Int} {F : zF} {B : zB} {H : Heap} {locs : List Loc} {ls : Array Slot}, rec7 l4 l3 l1 l0 F B = some (r, F9, B9) → zH D ca ad lnC K.2 L F B A H → va_S A s.heap H locs → lv_has ls 7 [(4, .int (iI l4)), (3, .int (iI l3)), (1, .long (lI l1)), (0, .ref (ad 7 l0 0))] → W p l e ({ frames := 3, cells := 0, slots := 0, locals := 60 } : Room) s m args below meth c H locs 0 0 (MQ below (Q_Scribe_lastPlace K D ca ad L r F9 B9 A) args s 0 0 A) (F0 m 7 ls [])) {l4 : Int} {l3 : Int} {l1 : Int} {l0 : Int} {F : zF} {B : zB} {H : Heap} {locs : List Loc} {ls : Array Slot} (hf : f_Scribe_lastPlace_78 rec7 K l4 l3 l1 l0 F B = some (r, F9, B9)) (hZ : zH D ca ad lnC K.2 L F B A H) (hS : va_S A s.heap H locs) (hl : lv_has ls 7 [(4, .int (iI l4)), (3, .int (iI l3)), (1, .long (lI l1)), (0, .ref (ad 7 l0 0))]) : W p l e ({ frames := 3, cells := 0, slots := 0, locals := 60 } : Room) s m args below meth c H locs 0 0 (MQ below (Q_Scribe_lastPlace K D ca ad L r F9 B9 A) args s 0 0 A) (F0 m 78 ls []) := by
  obtain ⟨hx, hb, hr, hml, hown, hts, hlk, hK, hA, hL, hX⟩ := id X
  replace hf : (if 0 ≤ l0 ∧ l0 < K.2 7 then if r64 l1 then if r64 (F 7 l0 6) then zbind (f_Scribe_trackEnd K l0 l4 F B) (fun r22 F22 B22 => rec7 r22 (l3 + 1) (zmax l1 (F 7 l0 6)) l0 F22 B22) else none else none else none) = some (r, F9, B9) := hf
  refine lv_lload_n hx hb (D_31 W_prog_9_method_5_code_64 14 rfl rfl) rfl (lv_at hl 2 rfl) ?_
  refine lv_aload_n hx hb (D_42 W_prog_9_method_5_code_64 15 rfl rfl) rfl (lv_at hl 3 rfl) ?_
  obtain ⟨g19, hf⟩ := gif hf
  refine zget (ci := 7) (C := RX7) (T := TX7) (v := .long (lI (F 7 l0 6))) (k := 6) hx hb hts inW_7 hown hK hZ g19.1 g19.2 rfl (by decide) k_2_104 rfl (D_180 W_prog_9_method_5_code_64 16 rfl rfl rfl) ?_
  obtain ⟨g20, hf⟩ := gif hf
  obtain ⟨g21, hf⟩ := gif hf
  refine va_mmax_long hx hb (by rw [hml]; exact hl.1.symm) hown (hts _ k_8_163) (hts _ k_5_176) (hts _ k_1_3) (hts _ k_5_177) (Nat.le_of_ble_eq_true rfl) (Nat.le_of_ble_eq_true rfl) (Nat.le_of_ble_eq_true rfl) (Nat.le_of_ble_eq_true rfl) (D_184 W_prog_9_method_5_code_64 19 rfl rfl rfl) ?_
  rw [zlmax_e g20 g21]
  refine lv_lstore_n (lv' := [(1, .long (lI (zmax l1 (F 7 l0 6)))), (4, .int (iI l4)), (3, .int (iI l3)), (0, .ref (ad 7 l0 0))]) hx hb (D_64 W_prog_9_method_5_code_64 22 rfl rfl) rfl hl (by decide) rfl (fun ls hl => ?_)
  refine lv_iinc (v := iI (l3 + 1)) (lv' := [(3, .int (iI (l3 + 1))), (1, .long (lI (zmax l1 (F 7 l0 6)))), (4, .int (iI l4)), (0, .ref (ad 7 l0 0))]) hx hb d_9_5_87 hl (k := 2) rfl (iI_add _ 1) (by decide) rfl (fun ls hl => ?_)
  refine lv_aload_n hx hb (D_42 W_prog_9_method_5_code_64 26 rfl rfl) rfl (lv_at hl 3 rfl) ?_
  refine lv_iload hx hb (D_21 W_prog_9_method_5_code_64 27 rfl rfl) (lv_at hl 2 rfl) ?_
  obtain ⟨r22, F22, B22, hc22, hf⟩ := gbind hf
  refine va_calli (va_runV (As := [.int (iI l4)]) (rest := []) ⟨hx, hb, hml, hown, hts⟩ (c_Scribe_trackEnd (l := l) hc22) (cwV 1 hts (gdV k_8_148 k_8_150 ks_112 k_1_7 k_8_151) rfl rfl rfl (by decide +kernel) ⟨Nat.le_of_ble_eq_true rfl, Nat.le_of_ble_eq_true rfl⟩) (zPV X hZ hS (ci := 7) g19.1 g19.2 (r := (RX7, TX7, 9)) rfl [.int (iI l4)]) rfl rfl hl.1 rfl (lv_room (Nat.le_of_ble_eq_true rfl)) (D_182 W_prog_9_method_5_code_64 29 rfl rfl rfl) ⟨Nat.le_of_ble_eq_true rfl, Nat.le_of_ble_eq_true rfl⟩) hS (fun q _ h => zAin X hS q h) (zAin X hS) (fun p22 u22 t22 H22 locs22 ht22 hv22 hw22 hB22 hz22 hk22 hS22 => ?_)
  have hZ22 := zBack X ht22 hB22
  subst hw22
  refine lv_istore (lv' := [(4, .int (iI r22)), (3, .int (iI (l3 + 1))), (1, .long (lI (zmax l1 (F 7 l0 6)))), (0, .ref (ad 7 l0 0))]) hx hb (D_54 W_prog_9_method_5_code_96 0 rfl rfl) hl (by decide) rfl (fun ls hl => ?_)
  refine lv_goto (tgt := 7) hx hb (D_167 W_prog_9_method_5_code_96 2 rfl rfl rfl) (by decide) ?_
  exact hrec7 hf hZ22 hS22 (lv_sub hl [0, 1, 2, 3] rfl)

def f_Scribe_lastPlace_41 (rec7 : Int → Int → Int → Int → zF → zB → zO) (K : zK) : Nat → Int → Int → Int → Int → Int → Int → zF → zB → zO
  | 0, _, _, _, _, _, _, _, _ => none
  | n + 1, l6, l5, l4, l3, l1, l0, F, B => if 0 ≤ l0 ∧ l0 < K.2 7 then if 0 ≤ (F 7 l0 0) ∧ (F 7 l0 0) < K.2 8 then if r32 l6 then if r32 (F 8 (F 7 l0 0) 2) then (if (F 8 (F 7 l0 0) 2) ≤ l6 then f_Scribe_lastPlace_78 rec7 K l4 l3 l1 l0 F B else if r32 (F 7 l0 7) then if r32 l5 then (if l5 ≤ (F 7 l0 7) then f_Scribe_lastPlace_78 rec7 K l4 l3 l1 l0 F B else zbind (f_Scribe_gatherEvent K l0 (F 7 l0 7) l5 F B) (fun r18 F18 B18 => f_Scribe_lastPlace_41 rec7 K n (l6 + 1) l5 l4 l3 l1 l0 F18 B18)) else none else none) else none else none else none else none
set_option maxHeartbeats 4000000 in
set_option maxRecDepth 100000 in
theorem b_Scribe_lastPlace_41 {D : va_G} {ca : Nat → ClassId} {ad : Nat → Int → Nat → Nat} {L : List Nat} {aS vS : Nat → Nat} {A : Nat → Prop} {p : Program} {l : Launch} {e : Env} {s : State} {m : MethodId} {args : Array Value} {below : List Frame} {meth : Method} {c : Code} {K : zK} {r : Int} {F9 : zF} {B9 : zB} (X : zX D ca L aS vS A p s m args meth c prog_9_method_5_code 7 (Option.some Jvm.ClassFile.FieldType.long) "StaveHouse$Scribe") {rec7 : Int → Int → Int → Int → zF → zB → zO} (hrec7 : ∀ {l4 : Int} {l3 : Int} {l1 : Int} {l0 : Int} {F : zF} {B : zB} {H : Heap} {locs : List Loc} {ls : Array Slot}, rec7 l4 l3 l1 l0 F B = some (r, F9, B9) → zH D ca ad lnC K.2 L F B A H → va_S A s.heap H locs → lv_has ls 7 [(4, .int (iI l4)), (3, .int (iI l3)), (1, .long (lI l1)), (0, .ref (ad 7 l0 0))] → W p l e ({ frames := 3, cells := 0, slots := 0, locals := 60 } : Room) s m args below meth c H locs 0 0 (MQ below (Q_Scribe_lastPlace K D ca ad L r F9 B9 A) args s 0 0 A) (F0 m 7 ls [])) : ∀ {n : Nat} {l6 : Int} {l5 : Int} {l4 : Int} {l3 : Int} {l1 : Int} {l0 : Int} {F : zF} {B : zB} {H : Heap} {locs : List Loc} {ls : Array Slot}, f_Scribe_lastPlace_41 rec7 K n l6 l5 l4 l3 l1 l0 F B = some (r, F9, B9) → zH D ca ad lnC K.2 L F B A H → va_S A s.heap H locs → lv_has ls 7 [(6, .int (iI l6)), (5, .int (iI l5)), (4, .int (iI l4)), (3, .int (iI l3)), (1, .long (lI l1)), (0, .ref (ad 7 l0 0))] → W p l e ({ frames := 3, cells := 0, slots := 0, locals := 60 } : Room) s m args below meth c H locs 0 0 (MQ below (Q_Scribe_lastPlace K D ca ad L r F9 B9 A) args s 0 0 A) (F0 m 41 ls []) := by
  obtain ⟨hx, hb, hr, hml, hown, hts, hlk, hK, hA, hL, hX⟩ := id X
  intro n
  induction n with
  | zero =>
    intros
    rename_i hf _ _ _
    cases hf
  | succ n ih =>
    intro l6 l5 l4 l3 l1 l0 F B H locs ls hf hZ hS hl
    replace hf : (if 0 ≤ l0 ∧ l0 < K.2 7 then if 0 ≤ (F 7 l0 0) ∧ (F 7 l0 0) < K.2 8 then if r32 l6 then if r32 (F 8 (F 7 l0 0) 2) then (if (F 8 (F 7 l0 0) 2) ≤ l6 then f_Scribe_lastPlace_78 rec7 K l4 l3 l1 l0 F B else if r32 (F 7 l0 7) then if r32 l5 then (if l5 ≤ (F 7 l0 7) then f_Scribe_lastPlace_78 rec7 K l4 l3 l1 l0 F B else zbind (f_Scribe_gatherEvent K l0 (F 7 l0 7) l5 F B) (fun r18 F18 B18 => f_Scribe_lastPlace_41 rec7 K n (l6 + 1) l5 l4 l3 l1 l0 F18 B18)) else none else none) else none else none else none else none) = some (r, F9, B9) := hf
    refine lv_iload hx hb (D_21 W_prog_9_method_5_code_32 9 rfl rfl) (lv_at hl 0 rfl) ?_
    refine lv_aload_n hx hb (D_42 W_prog_9_method_5_code_32 11 rfl rfl) rfl (lv_at hl 5 rfl) ?_
    obtain ⟨g10, hf⟩ := gif hf
    refine zget (ci := 7) (C := RX7) (T := TX7) (v := va_rf (zrf ad 8 (F 7 l0 0))) (k := 0) hx hb hts inW_7 hown hK hZ g10.1 g10.2 rfl (by decide) k_2_98 rfl (D_180 W_prog_9_method_5_code_32 12 rfl rfl rfl) ?_
    obtain ⟨g11, hf⟩ := gif hf
    refine zunrf g11.1 ?_
    refine zget (ci := 8) (C := RX8) (T := TX8) (v := .int (iI (F 8 (F 7 l0 0) 2))) (k := 2) hx hb hts inW_8 hown hK hZ g11.1 g11.2 rfl (by decide) k_7_224 rfl (D_180 W_prog_9_method_5_code_32 15 rfl rfl rfl) ?_
    obtain ⟨g12, hf⟩ := gif hf
    obtain ⟨g13, hf⟩ := gif hf
    refine zge (tgt := 78) hx hb g12 g13 (D_162 W_prog_9_method_5_code_32 18 rfl rfl rfl) (by decide) (fun h14 => ?_) (fun h14 => ?_)
    · replace hf := gpos hf h14
      exact b_Scribe_lastPlace_78 X hrec7 hf hZ hS (lv_sub hl [2, 3, 4, 5] rfl)
    · replace hf := gneg hf h14
      refine lv_aload_n hx hb (D_42 W_prog_9_method_5_code_32 21 rfl rfl) rfl (lv_at hl 5 rfl) ?_
      refine zget (ci := 7) (C := RX7) (T := TX7) (v := .int (iI (F 7 l0 7))) (k := 7) hx hb hts inW_7 hown hK hZ g10.1 g10.2 rfl (by decide) k_2_105 rfl (D_180 W_prog_9_method_5_code_32 22 rfl rfl rfl) ?_
      refine lv_iload hx hb (D_21 W_prog_9_method_5_code_32 25 rfl rfl) (lv_at hl 1 rfl) ?_
      obtain ⟨g15, hf⟩ := gif hf
      obtain ⟨g16, hf⟩ := gif hf
      refine zge (tgt := 78) hx hb g15 g16 (D_162 W_prog_9_method_5_code_32 27 rfl rfl rfl) (by decide) (fun h17 => ?_) (fun h17 => ?_)
      · replace hf := gpos hf h17
        exact b_Scribe_lastPlace_78 X hrec7 hf hZ hS (lv_sub hl [2, 3, 4, 5] rfl)
      · replace hf := gneg hf h17
        refine lv_aload_n hx hb (D_42 W_prog_9_method_5_code_32 30 rfl rfl) rfl (lv_at hl 5 rfl) ?_
        refine lv_aload_n hx hb (D_42 W_prog_9_method_5_code_32 31 rfl rfl) rfl (lv_at hl 5 rfl) ?_
        refine zget (ci := 7) (C := RX7) (T := TX7) (v := .int (iI (F 7 l0 7))) (k := 7) hx hb hts inW_7 hown hK hZ g10.1 g10.2 rfl (by decide) k_2_105 rfl (D_180 W_prog_9_method_5_code_64 0 rfl rfl rfl) ?_
        refine lv_iload hx hb (D_21 W_prog_9_method_5_code_64 3 rfl rfl) (lv_at hl 1 rfl) ?_
        obtain ⟨r18, F18, B18, hc18, hf⟩ := gbind hf
        refine va_callv (va_runV (As := [.int (iI (F 7 l0 7)), .int (iI l5)]) (rest := []) ⟨hx, hb, hml, hown, hts⟩ (c_Scribe_gatherEvent (l := l) hc18) (cwV 2 hts (gdV k_8_152 k_8_154 ks_113 k_1_7 k_8_155) rfl rfl rfl (by decide +kernel) ⟨Nat.le_of_ble_eq_true rfl, Nat.le_of_ble_eq_true rfl⟩) (zPV X hZ hS (ci := 7) g10.1 g10.2 (r := (RX7, TX7, 9)) rfl [.int (iI (F 7 l0 7)), .int (iI l5)]) rfl rfl hl.1 rfl (lv_room (Nat.le_of_ble_eq_true rfl)) (D_182 W_prog_9_method_5_code_64 5 rfl rfl rfl) ⟨Nat.le_of_ble_eq_true rfl, Nat.le_of_ble_eq_true rfl⟩) hS (fun q _ h => zAin X hS q h) (zAin X hS) (fun u18 t18 H18 locs18 ht18 hv18 hw18 hB18 hz18 hk18 hS18 => ?_)
        have hZ18 := zBack X ht18 hB18
        refine lv_iinc (v := iI (l6 + 1)) (lv' := [(6, .int (iI (l6 + 1))), (5, .int (iI l5)), (4, .int (iI l4)), (3, .int (iI l3)), (1, .long (lI l1)), (0, .ref (ad 7 l0 0))]) hx hb d_9_5_72 hl (k := 0) rfl (iI_add _ 1) (by decide) rfl (fun ls hl => ?_)
        refine lv_goto (tgt := 41) hx hb (D_167 W_prog_9_method_5_code_64 11 rfl rfl rfl) (by decide) ?_
        exact ih hf hZ18 hS18 (lv_sub hl [0, 1, 2, 3, 4, 5] rfl)

def f_Scribe_lastPlace_7 (K : zK) : Nat → Int → Int → Int → Int → zF → zB → zO
  | 0, _, _, _, _, _, _ => none
  | n + 1, l4, l3, l1, l0, F, B => if 0 ≤ l0 ∧ l0 < K.2 7 then if 0 ≤ (F 7 l0 0) ∧ (F 7 l0 0) < K.2 8 then if r32 l4 then if r32 (F 8 (F 7 l0 0) 2) then (if (F 8 (F 7 l0 0) 2) ≤ l4 then f_Scribe_lastPlace_101 K l1 F B else if r32 l3 then (if 4 ≤ l3 then f_Scribe_lastPlace_101 K l1 F B else zbind (f_Scribe_trackEnd K l0 l4 F B) (fun r8 F8 B8 => f_Scribe_lastPlace_41 (f_Scribe_lastPlace_7 K n) K K.1 0 r8 l4 l3 l1 l0 (zup3 F8 7 l0 7 l4) B8)) else none) else none else none else none else none
set_option maxHeartbeats 4000000 in
set_option maxRecDepth 100000 in
theorem b_Scribe_lastPlace_7 {D : va_G} {ca : Nat → ClassId} {ad : Nat → Int → Nat → Nat} {L : List Nat} {aS vS : Nat → Nat} {A : Nat → Prop} {p : Program} {l : Launch} {e : Env} {s : State} {m : MethodId} {args : Array Value} {below : List Frame} {meth : Method} {c : Code} {K : zK} {r : Int} {F9 : zF} {B9 : zB} (X : zX D ca L aS vS A p s m args meth c prog_9_method_5_code 7 (Option.some Jvm.ClassFile.FieldType.long) "StaveHouse$Scribe") : ∀ {n : Nat} {l4 : Int} {l3 : Int} {l1 : Int} {l0 : Int} {F : zF} {B : zB} {H : Heap} {locs : List Loc} {ls : Array Slot}, f_Scribe_lastPlace_7 K n l4 l3 l1 l0 F B = some (r, F9, B9) → zH D ca ad lnC K.2 L F B A H → va_S A s.heap H locs → lv_has ls 7 [(4, .int (iI l4)), (3, .int (iI l3)), (1, .long (lI l1)), (0, .ref (ad 7 l0 0))] → W p l e ({ frames := 3, cells := 0, slots := 0, locals := 60 } : Room) s m args below meth c H locs 0 0 (MQ below (Q_Scribe_lastPlace K D ca ad L r F9 B9 A) args s 0 0 A) (F0 m 7 ls []) := by
  obtain ⟨hx, hb, hr, hml, hown, hts, hlk, hK, hA, hL, hX⟩ := id X
  intro n
  induction n with
  | zero =>
    intros
    rename_i hf _ _ _
    cases hf
  | succ n ih =>
    intro l4 l3 l1 l0 F B H locs ls hf hZ hS hl
    replace hf : (if 0 ≤ l0 ∧ l0 < K.2 7 then if 0 ≤ (F 7 l0 0) ∧ (F 7 l0 0) < K.2 8 then if r32 l4 then if r32 (F 8 (F 7 l0 0) 2) then (if (F 8 (F 7 l0 0) 2) ≤ l4 then f_Scribe_lastPlace_101 K l1 F B else if r32 l3 then (if 4 ≤ l3 then f_Scribe_lastPlace_101 K l1 F B else zbind (f_Scribe_trackEnd K l0 l4 F B) (fun r8 F8 B8 => f_Scribe_lastPlace_41 (f_Scribe_lastPlace_7 K n) K K.1 0 r8 l4 l3 l1 l0 (zup3 F8 7 l0 7 l4) B8)) else none) else none else none else none else none) = some (r, F9, B9) := hf
    refine lv_iload hx hb (D_21 W_prog_9_method_5_code_0 7 rfl rfl) (lv_at hl 0 rfl) ?_
    refine lv_aload_n hx hb (D_42 W_prog_9_method_5_code_0 9 rfl rfl) rfl (lv_at hl 3 rfl) ?_
    obtain ⟨g1, hf⟩ := gif hf
    refine zget (ci := 7) (C := RX7) (T := TX7) (v := va_rf (zrf ad 8 (F 7 l0 0))) (k := 0) hx hb hts inW_7 hown hK hZ g1.1 g1.2 rfl (by decide) k_2_98 rfl (D_180 W_prog_9_method_5_code_0 10 rfl rfl rfl) ?_
    obtain ⟨g2, hf⟩ := gif hf
    refine zunrf g2.1 ?_
    refine zget (ci := 8) (C := RX8) (T := TX8) (v := .int (iI (F 8 (F 7 l0 0) 2))) (k := 2) hx hb hts inW_8 hown hK hZ g2.1 g2.2 rfl (by decide) k_7_224 rfl (D_180 W_prog_9_method_5_code_0 13 rfl rfl rfl) ?_
    obtain ⟨g3, hf⟩ := gif hf
    obtain ⟨g4, hf⟩ := gif hf
    refine zge (tgt := 101) hx hb g3 g4 (D_162 W_prog_9_method_5_code_0 16 rfl rfl rfl) (by decide) (fun h5 => ?_) (fun h5 => ?_)
    · replace hf := gpos hf h5
      exact b_Scribe_lastPlace_101 X hf hZ hS (lv_sub hl [2] rfl)
    · replace hf := gneg hf h5
      refine lv_iload_n hx hb (D_29 W_prog_9_method_5_code_0 19 rfl rfl) rfl (lv_at hl 1 rfl) ?_
      refine lv_iconst (v := iI 4) hx hb (D_7 W_prog_9_method_5_code_0 20 rfl rfl) rfl ?_
      obtain ⟨g6, hf⟩ := gif hf
      refine zge (tgt := 101) hx hb g6 (by decide) (D_162 W_prog_9_method_5_code_0 21 rfl rfl rfl) (by decide) (fun h7 => ?_) (fun h7 => ?_)
      · replace hf := gpos hf h7
        exact b_Scribe_lastPlace_101 X hf hZ hS (lv_sub hl [2] rfl)
      · replace hf := gneg hf h7
        refine lv_aload_n hx hb (D_42 W_prog_9_method_5_code_0 24 rfl rfl) rfl (lv_at hl 3 rfl) ?_
        refine lv_iload hx hb (D_21 W_prog_9_method_5_code_0 25 rfl rfl) (lv_at hl 0 rfl) ?_
        obtain ⟨r8, F8, B8, hc8, hf⟩ := gbind hf
        refine va_calli (va_runV (As := [.int (iI l4)]) (rest := []) ⟨hx, hb, hml, hown, hts⟩ (c_Scribe_trackEnd (l := l) hc8) (cwV 1 hts (gdV k_8_148 k_8_150 ks_112 k_1_7 k_8_151) rfl rfl rfl (by decide +kernel) ⟨Nat.le_of_ble_eq_true rfl, Nat.le_of_ble_eq_true rfl⟩) (zPV X hZ hS (ci := 7) g1.1 g1.2 (r := (RX7, TX7, 9)) rfl [.int (iI l4)]) rfl rfl hl.1 rfl (lv_room (Nat.le_of_ble_eq_true rfl)) (D_182 W_prog_9_method_5_code_0 27 rfl rfl rfl) ⟨Nat.le_of_ble_eq_true rfl, Nat.le_of_ble_eq_true rfl⟩) hS (fun q _ h => zAin X hS q h) (zAin X hS) (fun p8 u8 t8 H8 locs8 ht8 hv8 hw8 hB8 hz8 hk8 hS8 => ?_)
        have hZ8 := zBack X ht8 hB8
        subst hw8
        refine lv_istore (lv' := [(5, .int (iI r8)), (4, .int (iI l4)), (3, .int (iI l3)), (1, .long (lI l1)), (0, .ref (ad 7 l0 0))]) hx hb (D_54 W_prog_9_method_5_code_0 30 rfl rfl) hl (by decide) rfl (fun ls hl => ?_)
        refine lv_aload_n hx hb (D_42 W_prog_9_method_5_code_32 0 rfl rfl) rfl (lv_at hl 4 rfl) ?_
        refine lv_iload hx hb (D_21 W_prog_9_method_5_code_32 1 rfl rfl) (lv_at hl 1 rfl) ?_
        refine zput (ci := 7) (C := RX7) (T := TX7) (k := 7) (v := l4) (w := .int (iI l4)) hx hb hts inW_7 tyX7 tyX7_ok nmX7 hown hK hZ8 hS8 g1.1 g1.2 rfl (by decide) k_2_105 rfl (fun G h => congrArg (fun q => Value.int (iI q)) h) rfl rfl (zno (by decide)) (D_181 W_prog_9_method_5_code_32 3 rfl rfl rfl) (fun H9 locs9 hZ9 hS9 => ?_)
        refine lv_iconst (v := iI 0) hx hb (D_3 W_prog_9_method_5_code_32 6 rfl rfl) rfl ?_
        refine lv_istore (lv' := [(6, .int (iI 0)), (5, .int (iI r8)), (4, .int (iI l4)), (3, .int (iI l3)), (1, .long (lI l1)), (0, .ref (ad 7 l0 0))]) hx hb (D_54 W_prog_9_method_5_code_32 7 rfl rfl) hl (by decide) rfl (fun ls hl => ?_)
        exact b_Scribe_lastPlace_41 X ih hf hZ9 hS9 (lv_sub hl [0, 1, 2, 3, 4, 5] rfl)

def f_Scribe_lastPlace (K : zK) (l0 : Int) (F : zF) (B : zB) : zO := f_Scribe_lastPlace_7 K K.1 0 0 0 l0 F B
set_option maxHeartbeats 4000000 in
set_option maxRecDepth 100000 in
theorem c_Scribe_lastPlace {l : Launch} {D : va_G} {ca : Nat → ClassId} {ad : Nat → Int → Nat → Nat} {L : List Nat} {aS vS : Nat → Nat} {sz : Nat} {K : zK}  {l0 : Int} {F F9 : zF} {B B9 : zB} {r : Int} (hf : f_Scribe_lastPlace K l0 F B = some (r, F9, B9)) : Met l ({ cls := "StaveHouse$Scribe", name := "lastPlace", desc := "()J" } : Jvm.MethodName) (Cond.code ({ cls := "StaveHouse$Scribe", name := "lastPlace", desc := "()J" } : Jvm.MethodName) prog_9_method_5_code 7 (Option.some Jvm.ClassFile.FieldType.long) :: wAll) ({ frames := 3, cells := 0, slots := 0, locals := 60 } : Room) (va_Pc [.ref (ad 7 l0 0)] (zPre D ca ad lnC K.2 L aS vS F B sz)) (Q_Scribe_lastPlace K D ca ad L r F9 B9 (zA L sz)) 0 0 (zA L sz) := by
  refine zMet (Qc := Q_Scribe_lastPlace K D ca ad L r F9 B9) (lv := [(0, .ref (ad 7 l0 0))]) (by decide) (Nat.le_of_ble_eq_true rfl) rfl (fun A p e s m below meth c ls X hZ hS hl => ?_)
  obtain ⟨hx, hb, hr, hml, hown, hts, hlk, hK, hA, hL, hX⟩ := id X
  replace hf : (f_Scribe_lastPlace_7 K K.1 0 0 0 l0 F B) = some (r, F9, B9) := hf
  refine lv_lconst (v := lI 0) hx hb (D_9 W_prog_9_method_5_code_0 0 rfl rfl) (by decide) ?_
  refine lv_lstore_n (lv' := [(1, .long (lI 0)), (0, .ref (ad 7 l0 0))]) hx hb (D_64 W_prog_9_method_5_code_0 1 rfl rfl) rfl hl (by decide) rfl (fun ls hl => ?_)
  refine lv_iconst (v := iI 0) hx hb (D_3 W_prog_9_method_5_code_0 2 rfl rfl) rfl ?_
  refine lv_istore_n (lv' := [(3, .int (iI 0)), (1, .long (lI 0)), (0, .ref (ad 7 l0 0))]) hx hb (D_62 W_prog_9_method_5_code_0 3 rfl rfl) rfl hl (by decide) rfl (fun ls hl => ?_)
  refine lv_iconst (v := iI 0) hx hb (D_3 W_prog_9_method_5_code_0 4 rfl rfl) rfl ?_
  refine lv_istore (lv' := [(4, .int (iI 0)), (3, .int (iI 0)), (1, .long (lI 0)), (0, .ref (ad 7 l0 0))]) hx hb (D_54 W_prog_9_method_5_code_0 5 rfl rfl) hl (by decide) rfl (fun ls hl => ?_)
  exact b_Scribe_lastPlace_7 X hf hZ hS (lv_sub hl [0, 1, 2, 3] rfl)

abbrev Q_Scribe_writePitch (K : zK) (D : va_G) (ca : Nat → ClassId) (ad : Nat → Int → Nat → Nat) (L : List Nat) (r : Int) (F : zF) (B : zB) (A : Nat → Prop) : Array Value → State → Outcome → State → Prop := va_Qv (S := Unit) (fun _ => True) (fun _ => zPo D ca ad lnC K.2 L F B A) A
def f_Scribe_writePitch_43 (rec20 : Int → Int → Int → Int → zF → zB → zO) (K : zK) (l3 : Int) (l0 : Int) (l1 : Int) (l2 : Int) (s0 : Int) (s1 : Int) (F : zF) (B : zB) : zO := if 0 ≤ s0 ∧ s0 < K.2 0 then zbind (f_ByteRow_put K s0 s1 F B) (fun r16 F16 B16 => rec20 (l3 + 1) l0 l1 l2 F16 B16) else none
set_option maxHeartbeats 4000000 in
set_option maxRecDepth 100000 in
theorem b_Scribe_writePitch_43 {D : va_G} {ca : Nat → ClassId} {ad : Nat → Int → Nat → Nat} {L : List Nat} {aS vS : Nat → Nat} {A : Nat → Prop} {p : Program} {l : Launch} {e : Env} {s : State} {m : MethodId} {args : Array Value} {below : List Frame} {meth : Method} {c : Code} {K : zK} {r : Int} {F9 : zF} {B9 : zB} (X : zX D ca L aS vS A p s m args meth c prog_9_method_14_code 4 (Option.none : Option Jvm.ClassFile.FieldType) "StaveHouse$Scribe") {rec20 : Int → Int → Int → Int → zF → zB → zO} (hrec20 : ∀ {l3 : Int} {l0 : Int} {l1 : Int} {l2 : Int} {F : zF} {B : zB} {H : Heap} {locs : List Loc} {ls : Array Slot}, rec20 l3 l0 l1 l2 F B = some (r, F9, B9) → zH D ca ad lnC K.2 L F B A H → va_S A s.heap H locs → lv_has ls 4 [(3, .int (iI l3)), (0, .ref (ad 7 l0 0)), (1, .int (iI l1)), (2, .int (iI l2))] → W p l e ({ frames := 4, cells := 0, slots := 0, locals := 85 } : Room) s m args below meth c H locs 0 0 (MQ below (Q_Scribe_writePitch K D ca ad L r F9 B9 A) args s 0 0 A) (F0 m 20 ls [])) {l3 : Int} {l0 : Int} {l1 : Int} {l2 : Int} {s0 : Int} {s1 : Int} {F : zF} {B : zB} {H : Heap} {locs : List Loc} {ls : Array Slot} (hf : f_Scribe_writePitch_43 rec20 K l3 l0 l1 l2 s0 s1 F B = some (r, F9, B9)) (hZ : zH D ca ad lnC K.2 L F B A H) (hS : va_S A s.heap H locs) (hl : lv_has ls 4 [(3, .int (iI l3)), (0, .ref (ad 7 l0 0)), (1, .int (iI l1)), (2, .int (iI l2))]) : W p l e ({ frames := 4, cells := 0, slots := 0, locals := 85 } : Room) s m args below meth c H locs 0 0 (MQ below (Q_Scribe_writePitch K D ca ad L r F9 B9 A) args s 0 0 A) (F0 m 43 ls [.int (iI s1), va_rf (zrf ad 0 s0)]) := by
  obtain ⟨hx, hb, hr, hml, hown, hts, hlk, hK, hA, hL, hX⟩ := id X
  replace hf : (if 0 ≤ s0 ∧ s0 < K.2 0 then zbind (f_ByteRow_put K s0 s1 F B) (fun r16 F16 B16 => rec20 (l3 + 1) l0 l1 l2 F16 B16) else none) = some (r, F9, B9) := hf
  obtain ⟨g15, hf⟩ := gif hf
  refine W.eq (g2 := F0 m 43 ls [.int (iI s1), .ref (ad 0 s0 0)]) (by rw [zrf_pos (ad := ad) (t := 0) g15.1]; try rfl) ?_
  obtain ⟨r16, F16, B16, hc16, hf⟩ := gbind hf
  refine va_callv (va_runV (As := [.int (iI s1)]) (rest := []) ⟨hx, hb, hml, hown, hts⟩ (c_ByteRow_put (l := l) hc16) (cwV 1 hts (gdV k_8_180 k_2_171 k_2_172 k_1_2 k_2_173) rfl rfl rfl (by decide +kernel) ⟨Nat.le_of_ble_eq_true rfl, Nat.le_of_ble_eq_true rfl⟩) (zPV X hZ hS (ci := 0) g15.1 g15.2 (r := (RX0, TX0, 3)) rfl [.int (iI s1)]) rfl rfl hl.1 rfl (lv_room (Nat.le_of_ble_eq_true rfl)) (D_182 W_prog_9_method_14_code_32 11 rfl rfl rfl) ⟨Nat.le_of_ble_eq_true rfl, Nat.le_of_ble_eq_true rfl⟩) hS (fun q _ h => zAin X hS q h) (zAin X hS) (fun u16 t16 H16 locs16 ht16 hv16 hw16 hB16 hz16 hk16 hS16 => ?_)
  have hZ16 := zBack X ht16 hB16
  refine lv_iinc (v := iI (l3 + 1)) (lv' := [(3, .int (iI (l3 + 1))), (0, .ref (ad 7 l0 0)), (1, .int (iI l1)), (2, .int (iI l2))]) hx hb d_9_14_46 hl (k := 0) rfl (iI_add _ 1) (by decide) rfl (fun ls hl => ?_)
  refine lv_goto (tgt := 20) hx hb (D_167 W_prog_9_method_14_code_32 17 rfl rfl rfl) (by decide) ?_
  exact hrec20 hf hZ16 hS16 (lv_sub hl [0, 1, 2, 3] rfl)

def f_Scribe_writePitch_20 (K : zK) : Nat → Int → Int → Int → Int → zF → zB → zO
  | 0, _, _, _, _, _, _ => none
  | n + 1, l3, l0, l1, l2, F, B => if r32 l2 then if r32 l3 then if r32 (zabs l2) then (if (zabs l2) ≤ l3 then if 0 ≤ l0 ∧ l0 < K.2 7 then if 0 ≤ (F 7 l0 1) ∧ (F 7 l0 1) < K.2 0 then zbind (f_ByteRow_put K (F 7 l0 1) (48 + (zdv l1 7)) F B) (fun r12 F12 B12 => some (0, F12, B12)) else none else none else if 0 ≤ l0 ∧ l0 < K.2 7 then (if l2 ≤ 0 then f_Scribe_writePitch_43 (f_Scribe_writePitch_20 K n) K l3 l0 l1 l2 (F 7 l0 1) 98 F B else f_Scribe_writePitch_43 (f_Scribe_writePitch_20 K n) K l3 l0 l1 l2 (F 7 l0 1) 35 F B) else none) else none else none else none
set_option maxHeartbeats 4000000 in
set_option maxRecDepth 100000 in
theorem b_Scribe_writePitch_20 {D : va_G} {ca : Nat → ClassId} {ad : Nat → Int → Nat → Nat} {L : List Nat} {aS vS : Nat → Nat} {A : Nat → Prop} {p : Program} {l : Launch} {e : Env} {s : State} {m : MethodId} {args : Array Value} {below : List Frame} {meth : Method} {c : Code} {K : zK} {r : Int} {F9 : zF} {B9 : zB} (X : zX D ca L aS vS A p s m args meth c prog_9_method_14_code 4 (Option.none : Option Jvm.ClassFile.FieldType) "StaveHouse$Scribe") : ∀ {n : Nat} {l3 : Int} {l0 : Int} {l1 : Int} {l2 : Int} {F : zF} {B : zB} {H : Heap} {locs : List Loc} {ls : Array Slot}, f_Scribe_writePitch_20 K n l3 l0 l1 l2 F B = some (r, F9, B9) → zH D ca ad lnC K.2 L F B A H → va_S A s.heap H locs → lv_has ls 4 [(3, .int (iI l3)), (0, .ref (ad 7 l0 0)), (1, .int (iI l1)), (2, .int (iI l2))] → W p l e ({ frames := 4, cells := 0, slots := 0, locals := 85 } : Room) s m args below meth c H locs 0 0 (MQ below (Q_Scribe_writePitch K D ca ad L r F9 B9 A) args s 0 0 A) (F0 m 20 ls []) := by
  obtain ⟨hx, hb, hr, hml, hown, hts, hlk, hK, hA, hL, hX⟩ := id X
  intro n
  induction n with
  | zero =>
    intros
    rename_i hf _ _ _
    cases hf
  | succ n ih =>
    intro l3 l0 l1 l2 F B H locs ls hf hZ hS hl
    replace hf : (if r32 l2 then if r32 l3 then if r32 (zabs l2) then (if (zabs l2) ≤ l3 then if 0 ≤ l0 ∧ l0 < K.2 7 then if 0 ≤ (F 7 l0 1) ∧ (F 7 l0 1) < K.2 0 then zbind (f_ByteRow_put K (F 7 l0 1) (48 + (zdv l1 7)) F B) (fun r12 F12 B12 => some (0, F12, B12)) else none else none else if 0 ≤ l0 ∧ l0 < K.2 7 then (if l2 ≤ 0 then f_Scribe_writePitch_43 (f_Scribe_writePitch_20 K n) K l3 l0 l1 l2 (F 7 l0 1) 98 F B else f_Scribe_writePitch_43 (f_Scribe_writePitch_20 K n) K l3 l0 l1 l2 (F 7 l0 1) 35 F B) else none) else none else none else none) = some (r, F9, B9) := hf
    refine lv_iload_n hx hb (D_29 W_prog_9_method_14_code_0 20 rfl rfl) rfl (lv_at hl 0 rfl) ?_
    refine lv_iload_n hx hb (D_28 W_prog_9_method_14_code_0 21 rfl rfl) rfl (lv_at hl 3 rfl) ?_
    obtain ⟨g6, hf⟩ := gif hf
    refine va_mabs hx hb (by rw [hml]; exact hl.1.symm) hown (hts _ k_8_173) (hts _ k_4_229) (hts _ k_1_3) (hts _ k_4_230) (Nat.le_of_ble_eq_true rfl) (Nat.le_of_ble_eq_true rfl) (Nat.le_of_ble_eq_true rfl) (Nat.le_of_ble_eq_true rfl) (D_184 W_prog_9_method_14_code_0 22 rfl rfl rfl) ?_
    rw [zabs_e g6]
    obtain ⟨g7, hf⟩ := gif hf
    obtain ⟨g8, hf⟩ := gif hf
    refine zge (tgt := 52) hx hb g7 g8 (D_162 W_prog_9_method_14_code_0 25 rfl rfl rfl) (by decide) (fun h9 => ?_) (fun h9 => ?_)
    · replace hf := gpos hf h9
      refine lv_aload_n hx hb (D_42 W_prog_9_method_14_code_32 20 rfl rfl) rfl (lv_at hl 1 rfl) ?_
      obtain ⟨g10, hf⟩ := gif hf
      refine zget (ci := 7) (C := RX7) (T := TX7) (v := va_rf (zrf ad 0 (F 7 l0 1))) (k := 1) hx hb hts inW_7 hown hK hZ g10.1 g10.2 rfl (by decide) k_2_99 rfl (D_180 W_prog_9_method_14_code_32 21 rfl rfl rfl) ?_
      refine lv_bipush (v := iI 48) hx hb (D_16 W_prog_9_method_14_code_32 24 rfl rfl rfl) (by decide) ?_
      refine lv_iload_n hx hb (D_27 W_prog_9_method_14_code_32 26 rfl rfl) rfl (lv_at hl 2 rfl) ?_
      refine lv_bipush (v := iI 7) hx hb (D_16 W_prog_9_method_14_code_32 27 rfl rfl rfl) (by decide) ?_
      refine zdv_r hx hb (by decide) (D_108 W_prog_9_method_14_code_32 29 rfl rfl) ?_
      refine zadd hx hb (D_96 W_prog_9_method_14_code_32 30 rfl rfl) ?_
      obtain ⟨g11, hf⟩ := gif hf
      refine W.eq (g2 := F0 m 63 ls [.int (iI (48 + (zdv l1 7))), .ref (ad 0 (F 7 l0 1) 0)]) (by rw [zrf_pos (ad := ad) (t := 0) g11.1]; try rfl) ?_
      obtain ⟨r12, F12, B12, hc12, hf⟩ := gbind hf
      refine va_callv (va_runV (As := [.int (iI (48 + (zdv l1 7)))]) (rest := []) ⟨hx, hb, hml, hown, hts⟩ (c_ByteRow_put (l := l) hc12) (cwV 1 hts (gdV k_8_180 k_2_171 k_2_172 k_1_2 k_2_173) rfl rfl rfl (by decide +kernel) ⟨Nat.le_of_ble_eq_true rfl, Nat.le_of_ble_eq_true rfl⟩) (zPV X hZ hS (ci := 0) g11.1 g11.2 (r := (RX0, TX0, 3)) rfl [.int (iI (48 + (zdv l1 7)))]) rfl rfl hl.1 rfl (lv_room (Nat.le_of_ble_eq_true rfl)) (D_182 W_prog_9_method_14_code_32 31 rfl rfl rfl) ⟨Nat.le_of_ble_eq_true rfl, Nat.le_of_ble_eq_true rfl⟩) hS (fun q _ h => zAin X hS q h) (zAin X hS) (fun u12 t12 H12 locs12 ht12 hv12 hw12 hB12 hz12 hk12 hS12 => ?_)
      have hZ12 := zBack X ht12 hB12
      cases hf
      exact W.vret hx hb hr (fun t ht hW => ⟨⟨(), rfl, trivial, by rw [ht]; exact hZ12, va_K.moved hW.alike hK⟩, hS12.F ht⟩) hS12.2.2 (D_177 W_prog_9_method_14_code_64 2 rfl rfl) hlk
    · replace hf := gneg hf h9
      refine lv_aload_n hx hb (D_42 W_prog_9_method_14_code_0 28 rfl rfl) rfl (lv_at hl 1 rfl) ?_
      obtain ⟨g13, hf⟩ := gif hf
      refine zget (ci := 7) (C := RX7) (T := TX7) (v := va_rf (zrf ad 0 (F 7 l0 1))) (k := 1) hx hb hts inW_7 hown hK hZ g13.1 g13.2 rfl (by decide) k_2_99 rfl (D_180 W_prog_9_method_14_code_0 29 rfl rfl rfl) ?_
      refine lv_iload_n hx hb (D_28 W_prog_9_method_14_code_32 0 rfl rfl) rfl (lv_at hl 3 rfl) ?_
      refine z0le (tgt := 41) hx hb g6 (D_158 W_prog_9_method_14_code_32 1 rfl rfl rfl) (by decide) (fun h14 => ?_) (fun h14 => ?_)
      · replace hf := gpos hf h14
        refine lv_bipush (v := iI 98) hx hb (D_16 W_prog_9_method_14_code_32 9 rfl rfl rfl) (by decide) ?_
        exact b_Scribe_writePitch_43 X ih hf hZ hS (lv_sub hl [0, 1, 2, 3] rfl)
      · replace hf := gneg hf h14
        refine lv_bipush (v := iI 35) hx hb (D_16 W_prog_9_method_14_code_32 4 rfl rfl rfl) (by decide) ?_
        refine lv_goto (tgt := 43) hx hb (D_167 W_prog_9_method_14_code_32 6 rfl rfl rfl) (by decide) ?_
        exact b_Scribe_writePitch_43 X ih hf hZ hS (lv_sub hl [0, 1, 2, 3] rfl)

def f_Scribe_writePitch (K : zK) (l0 : Int) (l1 : Int) (l2 : Int) (F : zF) (B : zB) : zO := if 0 ≤ l0 ∧ l0 < K.2 7 then if 0 ≤ (F 7 l0 1) ∧ (F 7 l0 1) < K.2 0 then zbind (f_Math_floorMod K l1 7 F B) (fun r3 F3 B3 => zbind (f_CString_charAt K 20 r3 F3 B3) (fun r4 F4 B4 => zbind (f_ByteRow_put K (F 7 l0 1) r4 F4 B4) (fun r5 F5 B5 => f_Scribe_writePitch_20 K K.1 0 l0 l1 l2 F5 B5))) else none else none
set_option maxHeartbeats 4000000 in
set_option maxRecDepth 100000 in
theorem c_Scribe_writePitch {l : Launch} {D : va_G} {ca : Nat → ClassId} {ad : Nat → Int → Nat → Nat} {L : List Nat} {aS vS : Nat → Nat} {sz : Nat} {K : zK}  {l0 : Int} {l1 : Int} {l2 : Int} {F F9 : zF} {B B9 : zB} {r : Int} (hf : f_Scribe_writePitch K l0 l1 l2 F B = some (r, F9, B9)) : Met l ({ cls := "StaveHouse$Scribe", name := "writePitch", desc := "(II)V" } : Jvm.MethodName) (Cond.code ({ cls := "StaveHouse$Scribe", name := "writePitch", desc := "(II)V" } : Jvm.MethodName) prog_9_method_14_code 4 (Option.none : Option Jvm.ClassFile.FieldType) :: wAll) ({ frames := 4, cells := 0, slots := 0, locals := 85 } : Room) (va_Pc [.ref (ad 7 l0 0), .int (iI l1), .int (iI l2)] (zPre D ca ad lnC K.2 L aS vS F B sz)) (Q_Scribe_writePitch K D ca ad L r F9 B9 (zA L sz)) 0 0 (zA L sz) := by
  refine zMet (Qc := Q_Scribe_writePitch K D ca ad L r F9 B9) (lv := [(0, .ref (ad 7 l0 0)), (1, .int (iI l1)), (2, .int (iI l2))]) (by decide) (Nat.le_of_ble_eq_true rfl) rfl (fun A p e s m below meth c ls X hZ hS hl => ?_)
  obtain ⟨hx, hb, hr, hml, hown, hts, hlk, hK, hA, hL, hX⟩ := id X
  replace hf : (if 0 ≤ l0 ∧ l0 < K.2 7 then if 0 ≤ (F 7 l0 1) ∧ (F 7 l0 1) < K.2 0 then zbind (f_Math_floorMod K l1 7 F B) (fun r3 F3 B3 => zbind (f_CString_charAt K 20 r3 F3 B3) (fun r4 F4 B4 => zbind (f_ByteRow_put K (F 7 l0 1) r4 F4 B4) (fun r5 F5 B5 => f_Scribe_writePitch_20 K K.1 0 l0 l1 l2 F5 B5))) else none else none) = some (r, F9, B9) := hf
  refine lv_aload_n hx hb (D_42 W_prog_9_method_14_code_0 0 rfl rfl) rfl (lv_at hl 0 rfl) ?_
  obtain ⟨g1, hf⟩ := gif hf
  refine zget (ci := 7) (C := RX7) (T := TX7) (v := va_rf (zrf ad 0 (F 7 l0 1))) (k := 1) hx hb hts inW_7 hown hK hZ g1.1 g1.2 rfl (by decide) k_2_99 rfl (D_180 W_prog_9_method_14_code_0 1 rfl rfl rfl) ?_
  refine va_ldcS hx hb hown (hX.2.2.2.2.1 20 _ rfl).1 (D_18 W_prog_9_method_14_code_0 4 rfl rfl) ?_
  refine lv_iload_n hx hb (D_27 W_prog_9_method_14_code_0 6 rfl rfl) rfl (lv_at hl 1 rfl) ?_
  refine lv_bipush (v := iI 7) hx hb (D_16 W_prog_9_method_14_code_0 7 rfl rfl rfl) (by decide) ?_
  obtain ⟨g2, hf⟩ := gif hf
  refine W.eq (g2 := F0 m 9 ls [.int (iI 7), .int (iI l1), .ref (aS 20), .ref (ad 0 (F 7 l0 1) 0)]) (by rw [zrf_pos (ad := ad) (t := 0) g2.1]; try rfl) ?_
  obtain ⟨r3, F3, B3, hc3, hf⟩ := gbind hf
  refine va_calli (va_runS (As := [.int (iI l1), .int (iI 7)]) (rest := [.ref (aS 20), .ref (ad 0 (F 7 l0 1) 0)]) ⟨hx, hb, hml, hown, hts⟩ (c_Math_floorMod (l := l) hc3) (va_cwS 2 hts (gdS k_8_216 k_4_71 k_1_3 k_4_72) rfl rfl rfl (by decide +kernel) ⟨Nat.le_of_ble_eq_true rfl, Nat.le_of_ble_eq_true rfl⟩) (zPS X hZ hS [.int (iI l1), .int (iI 7)]) rfl rfl hl.1 rfl (lv_room (Nat.le_of_ble_eq_true rfl)) (D_184 W_prog_9_method_14_code_0 9 rfl rfl rfl) ⟨Nat.le_of_ble_eq_true rfl, Nat.le_of_ble_eq_true rfl⟩) hS (fun q _ h => zAin X hS q h) (zAin X hS) (fun p3 u3 t3 H3 locs3 ht3 hv3 hw3 hB3 hz3 hk3 hS3 => ?_)
  have hZ3 := zBack X ht3 hB3
  subst hw3
  obtain ⟨r4, F4, B4, hc4, hf⟩ := gbind hf
  refine va_calli (va_runV (As := [.int (iI r3)]) (rest := [.ref (ad 0 (F 7 l0 1) 0)]) ⟨hx, hb, hml, hown, hts⟩ (c_CString_charAt (l := l) hc4) (cwV 1 hts (gdV k_8_217 k_7_134 k_7_135 k_1_11 k_7_136) rfl rfl rfl (by decide +kernel) ⟨Nat.le_of_ble_eq_true rfl, Nat.le_of_ble_eq_true rfl⟩) ⟨zBlind, zsrecv hX (by decide) hS3, zAt X hZ3 hS3 [.ref (aS 20), .int (iI r3)]⟩ rfl rfl hl.1 rfl (lv_room (Nat.le_of_ble_eq_true rfl)) (D_182 W_prog_9_method_14_code_0 12 rfl rfl rfl) ⟨Nat.le_of_ble_eq_true rfl, Nat.le_of_ble_eq_true rfl⟩) hS3 (fun q _ h => zAin X hS3 q h) (zAin X hS3) (fun p4 u4 t4 H4 locs4 ht4 hv4 hw4 hB4 hz4 hk4 hS4 => ?_)
  have hZ4 := zBack X ht4 hB4
  subst hw4
  obtain ⟨r5, F5, B5, hc5, hf⟩ := gbind hf
  refine va_callv (va_runV (As := [.int (iI r4)]) (rest := []) ⟨hx, hb, hml, hown, hts⟩ (c_ByteRow_put (l := l) hc5) (cwV 1 hts (gdV k_8_180 k_2_171 k_2_172 k_1_2 k_2_173) rfl rfl rfl (by decide +kernel) ⟨Nat.le_of_ble_eq_true rfl, Nat.le_of_ble_eq_true rfl⟩) (zPV X hZ4 hS4 (ci := 0) g2.1 g2.2 (r := (RX0, TX0, 3)) rfl [.int (iI r4)]) rfl rfl hl.1 rfl (lv_room (Nat.le_of_ble_eq_true rfl)) (D_182 W_prog_9_method_14_code_0 15 rfl rfl rfl) ⟨Nat.le_of_ble_eq_true rfl, Nat.le_of_ble_eq_true rfl⟩) hS4 (fun q _ h => zAin X hS4 q h) (zAin X hS4) (fun u5 t5 H5 locs5 ht5 hv5 hw5 hB5 hz5 hk5 hS5 => ?_)
  have hZ5 := zBack X ht5 hB5
  refine lv_iconst (v := iI 0) hx hb (D_3 W_prog_9_method_14_code_0 18 rfl rfl) rfl ?_
  refine lv_istore_n (lv' := [(3, .int (iI 0)), (0, .ref (ad 7 l0 0)), (1, .int (iI l1)), (2, .int (iI l2))]) hx hb (D_62 W_prog_9_method_14_code_0 19 rfl rfl) rfl hl (by decide) rfl (fun ls hl => ?_)
  exact b_Scribe_writePitch_20 X hf hZ5 hS5 (lv_sub hl [0, 1, 2, 3] rfl)

abbrev Q_Performance_mixSound (K : zK) (D : va_G) (ca : Nat → ClassId) (ad : Nat → Int → Nat → Nat) (L : List Nat) (r : Int) (F : zF) (B : zB) (A : Nat → Prop) : Array Value → State → Outcome → State → Prop := va_Qv (S := Unit) (fun _ => True) (fun _ => zPo D ca ad lnC K.2 L F B A) A
def f_Performance_mixSound_131 (K : zK) : Nat → Int → Int → Int → Int → Int → Int → Int → Int → Int → zF → zB → zO
  | 0, _, _, _, _, _, _, _, _, _, _, _ => none
  | n + 1, l13, l12, l11, l10, l9, l7, l6, l0, l2, F, B => if r32 l13 then if r32 l9 then (if l9 ≤ l13 then some (0, F, B) else zbind (f_Performance_wave K l11 (zushr l12 24) F B) (fun r22 F22 B22 => if 0 ≤ l0 ∧ l0 < K.2 5 then if 0 ≤ (l13 - (F22 5 l0 2)) ∧ (l13 - (F22 5 l0 2)) < 1000 then zbind (f_Performance_level K (l13 - l6) (l7 - l6) F22 B22) (fun r25 F25 B25 => if 0 ≤ l2 ∧ l2 < 2000 then f_Performance_mixSound_131 K n (l13 + 1) (l12 + l10) l11 l10 l9 l7 l6 l0 l2 F25 (zup4 B25 5 l0 6 (l13 - (F22 5 l0 2)) ((B22 5 l0 6 (l13 - (F22 5 l0 2))) + (zdv ((r22 * r25) * (B25 5 l0 343 l2)) 1024))) else none) else none else none)) else none else none
set_option maxHeartbeats 4000000 in
set_option maxRecDepth 100000 in
theorem b_Performance_mixSound_131 {D : va_G} {ca : Nat → ClassId} {ad : Nat → Int → Nat → Nat} {L : List Nat} {aS vS : Nat → Nat} {A : Nat → Prop} {p : Program} {l : Launch} {e : Env} {s : State} {m : MethodId} {args : Array Value} {below : List Frame} {meth : Method} {c : Code} {K : zK} {r : Int} {F9 : zF} {B9 : zB} (X : zX D ca L aS vS A p s m args meth c prog_7_method_25_code 15 (Option.none : Option Jvm.ClassFile.FieldType) "StaveHouse$Performance") : ∀ {n : Nat} {l13 : Int} {l12 : Int} {l11 : Int} {l10 : Int} {l9 : Int} {l7 : Int} {l6 : Int} {l0 : Int} {l2 : Int} {F : zF} {B : zB} {H : Heap} {locs : List Loc} {ls : Array Slot}, f_Performance_mixSound_131 K n l13 l12 l11 l10 l9 l7 l6 l0 l2 F B = some (r, F9, B9) → zH D ca ad lnC K.2 L F B A H → va_S A s.heap H locs → lv_has ls 15 [(13, .int (iI l13)), (12, .int (iI l12)), (11, .int (iI l11)), (10, .int (iI l10)), (9, .int (iI l9)), (7, .int (iI l7)), (6, .int (iI l6)), (0, .ref (ad 5 l0 0)), (2, .int (iI l2))] → W p l e ({ frames := 3, cells := 0, slots := 0, locals := 54 } : Room) s m args below meth c H locs 0 0 (MQ below (Q_Performance_mixSound K D ca ad L r F9 B9 A) args s 0 0 A) (F0 m 131 ls []) := by
  obtain ⟨hx, hb, hr, hml, hown, hts, hlk, hK, hA, hL, hX⟩ := id X
  intro n
  induction n with
  | zero =>
    intros
    rename_i hf _ _ _
    cases hf
  | succ n ih =>
    intro l13 l12 l11 l10 l9 l7 l6 l0 l2 F B H locs ls hf hZ hS hl
    replace hf : (if r32 l13 then if r32 l9 then (if l9 ≤ l13 then some (0, F, B) else zbind (f_Performance_wave K l11 (zushr l12 24) F B) (fun r22 F22 B22 => if 0 ≤ l0 ∧ l0 < K.2 5 then if 0 ≤ (l13 - (F22 5 l0 2)) ∧ (l13 - (F22 5 l0 2)) < 1000 then zbind (f_Performance_level K (l13 - l6) (l7 - l6) F22 B22) (fun r25 F25 B25 => if 0 ≤ l2 ∧ l2 < 2000 then f_Performance_mixSound_131 K n (l13 + 1) (l12 + l10) l11 l10 l9 l7 l6 l0 l2 F25 (zup4 B25 5 l0 6 (l13 - (F22 5 l0 2)) ((B22 5 l0 6 (l13 - (F22 5 l0 2))) + (zdv ((r22 * r25) * (B25 5 l0 343 l2)) 1024))) else none) else none else none)) else none else none) = some (r, F9, B9) := hf
    refine lv_iload hx hb (D_21 W_prog_7_method_25_code_128 3 rfl rfl) (lv_at hl 0 rfl) ?_
    refine lv_iload hx hb (D_21 W_prog_7_method_25_code_128 5 rfl rfl) (lv_at hl 4 rfl) ?_
    obtain ⟨g19, hf⟩ := gif hf
    obtain ⟨g20, hf⟩ := gif hf
    refine zge (tgt := 207) hx hb g19 g20 (D_162 W_prog_7_method_25_code_128 7 rfl rfl rfl) (by decide) (fun h21 => ?_) (fun h21 => ?_)
    · replace hf := gpos hf h21
      cases hf
      exact W.vret hx hb hr (fun t ht hW => ⟨⟨(), rfl, trivial, by rw [ht]; exact hZ, va_K.moved hW.alike hK⟩, hS.F ht⟩) hS.2.2 (D_177 W_prog_7_method_25_code_192 15 rfl rfl) hlk
    · replace hf := gneg hf h21
      refine lv_iload hx hb (D_21 W_prog_7_method_25_code_128 10 rfl rfl) (lv_at hl 2 rfl) ?_
      refine lv_iload hx hb (D_21 W_prog_7_method_25_code_128 12 rfl rfl) (lv_at hl 1 rfl) ?_
      refine lv_bipush (v := iI 24) hx hb (D_16 W_prog_7_method_25_code_128 14 rfl rfl rfl) (by decide) ?_
      refine zushr_r hx hb (D_124 W_prog_7_method_25_code_128 16 rfl rfl) ?_
      obtain ⟨r22, F22, B22, hc22, hf⟩ := gbind hf
      refine va_calli (va_runS (As := [.int (iI l11), .int (iI (zushr l12 24))]) (rest := []) ⟨hx, hb, hml, hown, hts⟩ (c_Performance_wave (l := l) hc22) (va_cwS 2 hts (gdS k_9_12 k_9_13 k_1_20 k_9_14) rfl rfl rfl (by decide +kernel) ⟨Nat.le_of_ble_eq_true rfl, Nat.le_of_ble_eq_true rfl⟩) (zPS X hZ hS [.int (iI l11), .int (iI (zushr l12 24))]) rfl rfl hl.1 rfl (lv_room (Nat.le_of_ble_eq_true rfl)) (D_184 W_prog_7_method_25_code_128 17 rfl rfl rfl) ⟨Nat.le_of_ble_eq_true rfl, Nat.le_of_ble_eq_true rfl⟩) hS (fun q _ h => zAin X hS q h) (zAin X hS) (fun p22 u22 t22 H22 locs22 ht22 hv22 hw22 hB22 hz22 hk22 hS22 => ?_)
      have hZ22 := zBack X ht22 hB22
      subst hw22
      refine lv_istore (lv' := [(14, .int (iI r22)), (13, .int (iI l13)), (12, .int (iI l12)), (11, .int (iI l11)), (10, .int (iI l10)), (9, .int (iI l9)), (7, .int (iI l7)), (6, .int (iI l6)), (0, .ref (ad 5 l0 0)), (2, .int (iI l2))]) hx hb (D_54 W_prog_7_method_25_code_128 20 rfl rfl) hl (by decide) rfl (fun ls hl => ?_)
      refine lv_aload_n hx hb (D_42 W_prog_7_method_25_code_128 22 rfl rfl) rfl (lv_at hl 8 rfl) ?_
      obtain ⟨g23, hf⟩ := gif hf
      refine zget (ci := 5) (C := RX5) (T := TX5) (v := .ref (ad 5 l0 (6 + 1))) (k := 6) hx hb hts inW_5 hown hK hZ22 g23.1 g23.2 rfl (by decide) k_6_75 rfl (D_180 W_prog_7_method_25_code_128 23 rfl rfl rfl) ?_
      refine lv_iload hx hb (D_21 W_prog_7_method_25_code_128 26 rfl rfl) (lv_at hl 1 rfl) ?_
      refine lv_aload_n hx hb (D_42 W_prog_7_method_25_code_128 28 rfl rfl) rfl (lv_at hl 8 rfl) ?_
      refine zget (ci := 5) (C := RX5) (T := TX5) (v := .int (iI (F22 5 l0 2))) (k := 2) hx hb hts inW_5 hown hK hZ22 g23.1 g23.2 rfl (by decide) k_6_68 rfl (D_180 W_prog_7_method_25_code_128 29 rfl rfl rfl) ?_
      refine zsub hx hb (D_100 W_prog_7_method_25_code_160 0 rfl rfl) ?_
      refine lv_dup2_11 hx hb (D_92 W_prog_7_method_25_code_160 1 rfl rfl) rfl rfl ?_
      obtain ⟨g24, hf⟩ := gif hf
      refine zald (ci := 5) (k := 6) hx hb hK rfl hZ22 g23.1 g23.2 rfl (Nat.le_of_ble_eq_true rfl) g24.1 g24.2 (D_46 W_prog_7_method_25_code_160 2 rfl rfl) ?_
      refine lv_iload hx hb (D_21 W_prog_7_method_25_code_160 3 rfl rfl) (lv_at hl 0 rfl) ?_
      refine lv_iload hx hb (D_21 W_prog_7_method_25_code_160 5 rfl rfl) (lv_at hl 1 rfl) ?_
      refine lv_iload hx hb (D_21 W_prog_7_method_25_code_160 7 rfl rfl) (lv_at hl 7 rfl) ?_
      refine zsub hx hb (D_100 W_prog_7_method_25_code_160 9 rfl rfl) ?_
      refine lv_iload hx hb (D_21 W_prog_7_method_25_code_160 10 rfl rfl) (lv_at hl 6 rfl) ?_
      refine lv_iload hx hb (D_21 W_prog_7_method_25_code_160 12 rfl rfl) (lv_at hl 7 rfl) ?_
      refine zsub hx hb (D_100 W_prog_7_method_25_code_160 14 rfl rfl) ?_
      obtain ⟨r25, F25, B25, hc25, hf⟩ := gbind hf
      refine va_calli (va_runS (As := [.int (iI (l13 - l6)), .int (iI (l7 - l6))]) (rest := [.int (iI r22), .int (iI (B22 5 l0 6 (l13 - (F22 5 l0 2)))), .int (iI (l13 - (F22 5 l0 2))), .ref (ad 5 l0 (6 + 1))]) ⟨hx, hb, hml, hown, hts⟩ (c_Performance_level (l := l) hc25) (va_cwS 2 hts (gdS k_9_16 k_9_17 k_1_20 k_9_18) rfl rfl rfl (by decide +kernel) ⟨Nat.le_of_ble_eq_true rfl, Nat.le_of_ble_eq_true rfl⟩) (zPS X hZ22 hS22 [.int (iI (l13 - l6)), .int (iI (l7 - l6))]) rfl rfl hl.1 rfl (lv_room (Nat.le_of_ble_eq_true rfl)) (D_184 W_prog_7_method_25_code_160 15 rfl rfl rfl) ⟨Nat.le_of_ble_eq_true rfl, Nat.le_of_ble_eq_true rfl⟩) hS22 (fun q _ h => zAin X hS22 q h) (zAin X hS22) (fun p25 u25 t25 H25 locs25 ht25 hv25 hw25 hB25 hz25 hk25 hS25 => ?_)
      have hZ25 := zBack X ht25 hB25
      subst hw25
      refine zmul hx hb (D_104 W_prog_7_method_25_code_160 18 rfl rfl) ?_
      refine lv_aload_n hx hb (D_42 W_prog_7_method_25_code_160 19 rfl rfl) rfl (lv_at hl 8 rfl) ?_
      refine zget (ci := 5) (C := RX5) (T := TX5) (v := .ref (ad 5 l0 (7 + 1))) (k := 7) hx hb hts inW_5 hown hK hZ25 g23.1 g23.2 rfl (by decide) k_6_76 rfl (D_180 W_prog_7_method_25_code_160 20 rfl rfl rfl) ?_
      refine lv_iconst (v := iI 3) hx hb (D_6 W_prog_7_method_25_code_160 23 rfl rfl) rfl ?_
      refine zaldQ (t := 0) (ci := 5) (k := 7) hx hb hK rfl hZ25 g23.1 g23.2 rfl (Nat.le_of_ble_eq_true rfl) (by decide) (by decide) (D_50 W_prog_7_method_25_code_160 24 rfl rfl) ?_
      refine W.eq (g2 := F0 m 185 ls [.ref (ad 5 l0 (343 + 1)), .int (iI (r22 * r25)), .int (iI (B22 5 l0 6 (l13 - (F22 5 l0 2)))), .int (iI (l13 - (F22 5 l0 2))), .ref (ad 5 l0 (6 + 1))]) rfl ?_
      refine lv_iload_n hx hb (D_28 W_prog_7_method_25_code_160 25 rfl rfl) rfl (lv_at hl 9 rfl) ?_
      obtain ⟨g26, hf⟩ := gif hf
      refine zald (ci := 5) (k := 343) hx hb hK rfl hZ25 g23.1 g23.2 rfl (Nat.le_of_ble_eq_true rfl) g26.1 g26.2 (D_46 W_prog_7_method_25_code_160 26 rfl rfl) ?_
      refine zmul hx hb (D_104 W_prog_7_method_25_code_160 27 rfl rfl) ?_
      refine lv_sipush (v := iI 1024) hx hb (D_17 W_prog_7_method_25_code_160 28 rfl rfl rfl) (by decide) ?_
      refine zdv_r hx hb (by decide) (D_108 W_prog_7_method_25_code_160 31 rfl rfl) ?_
      refine zadd hx hb (D_96 W_prog_7_method_25_code_192 0 rfl rfl) ?_
      refine zast (ci := 5) (k := 6) hx hb hK rfl hZ25 hS25 g23.1 g23.2 rfl (Nat.le_of_ble_eq_true rfl) g24.1 g24.2 (D_79 W_prog_7_method_25_code_192 1 rfl rfl) (fun H27 locs27 hZ27 hS27 => ?_)
      refine lv_iload hx hb (D_21 W_prog_7_method_25_code_192 2 rfl rfl) (lv_at hl 2 rfl) ?_
      refine lv_iload hx hb (D_21 W_prog_7_method_25_code_192 4 rfl rfl) (lv_at hl 4 rfl) ?_
      refine zadd hx hb (D_96 W_prog_7_method_25_code_192 6 rfl rfl) ?_
      refine lv_istore (lv' := [(12, .int (iI (l12 + l10))), (14, .int (iI r22)), (13, .int (iI l13)), (11, .int (iI l11)), (10, .int (iI l10)), (9, .int (iI l9)), (7, .int (iI l7)), (6, .int (iI l6)), (0, .ref (ad 5 l0 0)), (2, .int (iI l2))]) hx hb (D_54 W_prog_7_method_25_code_192 7 rfl rfl) hl (by decide) rfl (fun ls hl => ?_)
      refine lv_iinc (v := iI (l13 + 1)) (lv' := [(13, .int (iI (l13 + 1))), (12, .int (iI (l12 + l10))), (14, .int (iI r22)), (11, .int (iI l11)), (10, .int (iI l10)), (9, .int (iI l9)), (7, .int (iI l7)), (6, .int (iI l6)), (0, .ref (ad 5 l0 0)), (2, .int (iI l2))]) hx hb d_7_25_201 hl (k := 2) rfl (iI_add _ 1) (by decide) rfl (fun ls hl => ?_)
      refine lv_goto (tgt := 131) hx hb (D_167 W_prog_7_method_25_code_192 12 rfl rfl rfl) (by decide) ?_
      exact ih hf hZ27 hS27 (lv_sub hl [0, 1, 3, 4, 5, 6, 7, 8, 9] rfl)

def f_Performance_mixSound (K : zK) (l0 : Int) (l1 : Int) (l2 : Int) (l3 : Int) (F : zF) (B : zB) : zO := if 0 ≤ l1 ∧ l1 < K.2 6 then if r32 (F 6 l1 6) then if r32 (zmax (F 6 l1 6) 1) then if 0 ≤ l0 ∧ l0 < K.2 5 then if 0 ≤ l2 ∧ l2 < 2000 then if r32 (B 5 l0 344 l2) then if ¬ lI (zmax (F 6 l1 6) 1) = 0 then if r32 (B 5 l0 345 l2) then if r32 (zldv ((B 5 l0 344 l2) * 5000) (zmax (F 6 l1 6) 1)) then if r32 (F 5 l0 2) then if r32 ((zldv ((B 5 l0 345 l2) * 5000) (zmax (F 6 l1 6) 1)) + 400) then if r32 ((F 5 l0 2) + l3) then if r32 (zmax (zldv ((B 5 l0 344 l2) * 5000) (zmax (F 6 l1 6) 1)) (F 5 l0 2)) then if r32 (zmin ((zldv ((B 5 l0 345 l2) * 5000) (zmax (F 6 l1 6) 1)) + 400) ((F 5 l0 2) + l3)) then (if (zmax (zldv ((B 5 l0 344 l2) * 5000) (zmax (F 6 l1 6) 1)) (F 5 l0 2)) < (zmin ((zldv ((B 5 l0 345 l2) * 5000) (zmax (F 6 l1 6) 1)) + 400) ((F 5 l0 2) + l3)) then zbind (f_Performance_turn K (B 5 l0 342 l2) F B) (fun r16 F16 B16 => if 0 ≤ (B16 5 l0 340 l2) ∧ (B16 5 l0 340 l2) < 4 then if 0 ≤ (B16 6 l1 0 (B16 5 l0 340 l2)) ∧ (B16 6 l1 0 (B16 5 l0 340 l2)) < K.2 4 then f_Performance_mixSound_131 K K.1 (zmax (zldv ((B 5 l0 344 l2) * 5000) (zmax (F 6 l1 6) 1)) (F 5 l0 2)) (((zmax (zldv ((B 5 l0 344 l2) * 5000) (zmax (F 6 l1 6) 1)) (F 5 l0 2)) - (zldv ((B 5 l0 344 l2) * 5000) (zmax (F 6 l1 6) 1))) * r16) (F16 4 (B16 6 l1 0 (B16 5 l0 340 l2)) 2) r16 (zmin ((zldv ((B 5 l0 345 l2) * 5000) (zmax (F 6 l1 6) 1)) + 400) ((F 5 l0 2) + l3)) (zldv ((B 5 l0 345 l2) * 5000) (zmax (F 6 l1 6) 1)) (zldv ((B 5 l0 344 l2) * 5000) (zmax (F 6 l1 6) 1)) l0 l2 F16 B16 else none else none) else some (0, F, B)) else none else none else none else none else none else none else none else none else none else none else none else none else none else none
set_option maxHeartbeats 4000000 in
set_option maxRecDepth 100000 in
theorem c_Performance_mixSound {l : Launch} {D : va_G} {ca : Nat → ClassId} {ad : Nat → Int → Nat → Nat} {L : List Nat} {aS vS : Nat → Nat} {sz : Nat} {K : zK}  {l0 : Int} {l1 : Int} {l2 : Int} {l3 : Int} {F F9 : zF} {B B9 : zB} {r : Int} (hf : f_Performance_mixSound K l0 l1 l2 l3 F B = some (r, F9, B9)) : Met l ({ cls := "StaveHouse$Performance", name := "mixSound", desc := "(LStaveHouse$Piece;II)V" } : Jvm.MethodName) (Cond.code ({ cls := "StaveHouse$Performance", name := "mixSound", desc := "(LStaveHouse$Piece;II)V" } : Jvm.MethodName) prog_7_method_25_code 15 (Option.none : Option Jvm.ClassFile.FieldType) :: wAll) ({ frames := 3, cells := 0, slots := 0, locals := 54 } : Room) (va_Pc [.ref (ad 5 l0 0), .ref (ad 6 l1 0), .int (iI l2), .int (iI l3)] (zPre D ca ad lnC K.2 L aS vS F B sz)) (Q_Performance_mixSound K D ca ad L r F9 B9 (zA L sz)) 0 0 (zA L sz) := by
  refine zMet (Qc := Q_Performance_mixSound K D ca ad L r F9 B9) (lv := [(0, .ref (ad 5 l0 0)), (1, .ref (ad 6 l1 0)), (2, .int (iI l2)), (3, .int (iI l3))]) (by decide) (Nat.le_of_ble_eq_true rfl) rfl (fun A p e s m below meth c ls X hZ hS hl => ?_)
  obtain ⟨hx, hb, hr, hml, hown, hts, hlk, hK, hA, hL, hX⟩ := id X
  replace hf : (if 0 ≤ l1 ∧ l1 < K.2 6 then if r32 (F 6 l1 6) then if r32 (zmax (F 6 l1 6) 1) then if 0 ≤ l0 ∧ l0 < K.2 5 then if 0 ≤ l2 ∧ l2 < 2000 then if r32 (B 5 l0 344 l2) then if ¬ lI (zmax (F 6 l1 6) 1) = 0 then if r32 (B 5 l0 345 l2) then if r32 (zldv ((B 5 l0 344 l2) * 5000) (zmax (F 6 l1 6) 1)) then if r32 (F 5 l0 2) then if r32 ((zldv ((B 5 l0 345 l2) * 5000) (zmax (F 6 l1 6) 1)) + 400) then if r32 ((F 5 l0 2) + l3) then if r32 (zmax (zldv ((B 5 l0 344 l2) * 5000) (zmax (F 6 l1 6) 1)) (F 5 l0 2)) then if r32 (zmin ((zldv ((B 5 l0 345 l2) * 5000) (zmax (F 6 l1 6) 1)) + 400) ((F 5 l0 2) + l3)) then (if (zmax (zldv ((B 5 l0 344 l2) * 5000) (zmax (F 6 l1 6) 1)) (F 5 l0 2)) < (zmin ((zldv ((B 5 l0 345 l2) * 5000) (zmax (F 6 l1 6) 1)) + 400) ((F 5 l0 2) + l3)) then zbind (f_Performance_turn K (B 5 l0 342 l2) F B) (fun r16 F16 B16 => if 0 ≤ (B16 5 l0 340 l2) ∧ (B16 5 l0 340 l2) < 4 then if 0 ≤ (B16 6 l1 0 (B16 5 l0 340 l2)) ∧ (B16 6 l1 0 (B16 5 l0 340 l2)) < K.2 4 then f_Performance_mixSound_131 K K.1 (zmax (zldv ((B 5 l0 344 l2) * 5000) (zmax (F 6 l1 6) 1)) (F 5 l0 2)) (((zmax (zldv ((B 5 l0 344 l2) * 5000) (zmax (F 6 l1 6) 1)) (F 5 l0 2)) - (zldv ((B 5 l0 344 l2) * 5000) (zmax (F 6 l1 6) 1))) * r16) (F16 4 (B16 6 l1 0 (B16 5 l0 340 l2)) 2) r16 (zmin ((zldv ((B 5 l0 345 l2) * 5000) (zmax (F 6 l1 6) 1)) + 400) ((F 5 l0 2) + l3)) (zldv ((B 5 l0 345 l2) * 5000) (zmax (F 6 l1 6) 1)) (zldv ((B 5 l0 344 l2) * 5000) (zmax (F 6 l1 6) 1)) l0 l2 F16 B16 else none else none) else some (0, F, B)) else none else none else none else none else none else none else none else none else none else none else none else none else none else none) = some (r, F9, B9) := hf
  refine lv_aload_n hx hb (D_43 W_prog_7_method_25_code_0 0 rfl rfl) rfl (lv_at hl 1 rfl) ?_
  obtain ⟨g1, hf⟩ := gif hf
  refine zget (ci := 6) (C := RX6) (T := TX6) (v := .int (iI (F 6 l1 6))) (k := 6) hx hb hts inW_6 hown hK hZ g1.1 g1.2 rfl (by decide) k_2_220 rfl (D_180 W_prog_7_method_25_code_0 1 rfl rfl rfl) ?_
  refine lv_iconst (v := iI 1) hx hb (D_4 W_prog_7_method_25_code_0 4 rfl rfl) rfl ?_
  obtain ⟨g2, hf⟩ := gif hf
  refine va_mmax hx hb (by rw [hml]; exact hl.1.symm) hown (hts _ k_6_153) (hts _ k_1_39) (hts _ k_1_3) (hts _ k_1_40) (Nat.le_of_ble_eq_true rfl) (Nat.le_of_ble_eq_true rfl) (Nat.le_of_ble_eq_true rfl) (Nat.le_of_ble_eq_true rfl) (D_184 W_prog_7_method_25_code_0 5 rfl rfl rfl) ?_
  rw [zmax_e g2 (by decide)]
  obtain ⟨g3, hf⟩ := gif hf
  refine zi2l hx hb g3 (D_133 W_prog_7_method_25_code_0 8 rfl rfl) ?_
  refine lv_lstore (lv' := [(4, .long (lI (zmax (F 6 l1 6) 1))), (0, .ref (ad 5 l0 0)), (1, .ref (ad 6 l1 0)), (2, .int (iI l2)), (3, .int (iI l3))]) hx hb (D_55 W_prog_7_method_25_code_0 9 rfl rfl) hl (by decide) rfl (fun ls hl => ?_)
  refine lv_aload_n hx hb (D_42 W_prog_7_method_25_code_0 11 rfl rfl) rfl (lv_at hl 1 rfl) ?_
  obtain ⟨g4, hf⟩ := gif hf
  refine zget (ci := 5) (C := RX5) (T := TX5) (v := .ref (ad 5 l0 (7 + 1))) (k := 7) hx hb hts inW_5 hown hK hZ g4.1 g4.2 rfl (by decide) k_6_76 rfl (D_180 W_prog_7_method_25_code_0 12 rfl rfl rfl) ?_
  refine lv_iconst (v := iI 4) hx hb (D_7 W_prog_7_method_25_code_0 15 rfl rfl) rfl ?_
  refine zaldQ (t := 0) (ci := 5) (k := 7) hx hb hK rfl hZ g4.1 g4.2 rfl (Nat.le_of_ble_eq_true rfl) (by decide) (by decide) (D_50 W_prog_7_method_25_code_0 16 rfl rfl) ?_
  refine W.eq (g2 := F0 m 17 ls [.ref (ad 5 l0 (344 + 1))]) rfl ?_
  refine lv_iload_n hx hb (D_28 W_prog_7_method_25_code_0 17 rfl rfl) rfl (lv_at hl 3 rfl) ?_
  obtain ⟨g5, hf⟩ := gif hf
  refine zald (ci := 5) (k := 344) hx hb hK rfl hZ g4.1 g4.2 rfl (Nat.le_of_ble_eq_true rfl) g5.1 g5.2 (D_46 W_prog_7_method_25_code_0 18 rfl rfl) ?_
  obtain ⟨g6, hf⟩ := gif hf
  refine zi2l hx hb g6 (D_133 W_prog_7_method_25_code_0 19 rfl rfl) ?_
  refine lv_ldc2 hx hb hown (hts _ k_9_6) (D_20 W_prog_7_method_25_code_0 20 rfl rfl rfl) ?_
  refine W.eq (g2 := F0 m 23 ls [.long (lI 5000), .long (lI (B 5 l0 344 l2))]) rfl ?_
  refine zlmul hx hb (D_105 W_prog_7_method_25_code_0 23 rfl rfl) ?_
  refine lv_lload hx hb (D_22 W_prog_7_method_25_code_0 24 rfl rfl) (lv_at hl 0 rfl) ?_
  obtain ⟨g7, hf⟩ := gif hf
  refine zldv_r hx hb g7 (D_109 W_prog_7_method_25_code_0 26 rfl rfl) ?_
  refine zl2iw hx hb (D_136 W_prog_7_method_25_code_0 27 rfl rfl) ?_
  refine lv_istore (lv' := [(6, .int (iI (zldv ((B 5 l0 344 l2) * 5000) (zmax (F 6 l1 6) 1)))), (4, .long (lI (zmax (F 6 l1 6) 1))), (0, .ref (ad 5 l0 0)), (1, .ref (ad 6 l1 0)), (2, .int (iI l2)), (3, .int (iI l3))]) hx hb (D_54 W_prog_7_method_25_code_0 28 rfl rfl) hl (by decide) rfl (fun ls hl => ?_)
  refine lv_aload_n hx hb (D_42 W_prog_7_method_25_code_0 30 rfl rfl) rfl (lv_at hl 2 rfl) ?_
  refine zget (ci := 5) (C := RX5) (T := TX5) (v := .ref (ad 5 l0 (7 + 1))) (k := 7) hx hb hts inW_5 hown hK hZ g4.1 g4.2 rfl (by decide) k_6_76 rfl (D_180 W_prog_7_method_25_code_0 31 rfl rfl rfl) ?_
  refine lv_iconst (v := iI 5) hx hb (D_8 W_prog_7_method_25_code_32 2 rfl rfl) rfl ?_
  refine zaldQ (t := 0) (ci := 5) (k := 7) hx hb hK rfl hZ g4.1 g4.2 rfl (Nat.le_of_ble_eq_true rfl) (by decide) (by decide) (D_50 W_prog_7_method_25_code_32 3 rfl rfl) ?_
  refine W.eq (g2 := F0 m 36 ls [.ref (ad 5 l0 (345 + 1))]) rfl ?_
  refine lv_iload_n hx hb (D_28 W_prog_7_method_25_code_32 4 rfl rfl) rfl (lv_at hl 4 rfl) ?_
  refine zald (ci := 5) (k := 345) hx hb hK rfl hZ g4.1 g4.2 rfl (Nat.le_of_ble_eq_true rfl) g5.1 g5.2 (D_46 W_prog_7_method_25_code_32 5 rfl rfl) ?_
  obtain ⟨g8, hf⟩ := gif hf
  refine zi2l hx hb g8 (D_133 W_prog_7_method_25_code_32 6 rfl rfl) ?_
  refine lv_ldc2 hx hb hown (hts _ k_9_6) (D_20 W_prog_7_method_25_code_32 7 rfl rfl rfl) ?_
  refine W.eq (g2 := F0 m 42 ls [.long (lI 5000), .long (lI (B 5 l0 345 l2))]) rfl ?_
  refine zlmul hx hb (D_105 W_prog_7_method_25_code_32 10 rfl rfl) ?_
  refine lv_lload hx hb (D_22 W_prog_7_method_25_code_32 11 rfl rfl) (lv_at hl 1 rfl) ?_
  refine zldv_r hx hb g7 (D_109 W_prog_7_method_25_code_32 13 rfl rfl) ?_
  refine zl2iw hx hb (D_136 W_prog_7_method_25_code_32 14 rfl rfl) ?_
  refine lv_istore (lv' := [(7, .int (iI (zldv ((B 5 l0 345 l2) * 5000) (zmax (F 6 l1 6) 1)))), (6, .int (iI (zldv ((B 5 l0 344 l2) * 5000) (zmax (F 6 l1 6) 1)))), (4, .long (lI (zmax (F 6 l1 6) 1))), (0, .ref (ad 5 l0 0)), (1, .ref (ad 6 l1 0)), (2, .int (iI l2)), (3, .int (iI l3))]) hx hb (D_54 W_prog_7_method_25_code_32 15 rfl rfl) hl (by decide) rfl (fun ls hl => ?_)
  refine lv_iload hx hb (D_21 W_prog_7_method_25_code_32 17 rfl rfl) (lv_at hl 1 rfl) ?_
  refine lv_aload_n hx hb (D_42 W_prog_7_method_25_code_32 19 rfl rfl) rfl (lv_at hl 3 rfl) ?_
  refine zget (ci := 5) (C := RX5) (T := TX5) (v := .int (iI (F 5 l0 2))) (k := 2) hx hb hts inW_5 hown hK hZ g4.1 g4.2 rfl (by decide) k_6_68 rfl (D_180 W_prog_7_method_25_code_32 20 rfl rfl rfl) ?_
  obtain ⟨g9, hf⟩ := gif hf
  obtain ⟨g10, hf⟩ := gif hf
  refine va_mmax hx hb (by rw [hml]; exact hl.1.symm) hown (hts _ k_6_153) (hts _ k_1_39) (hts _ k_1_3) (hts _ k_1_40) (Nat.le_of_ble_eq_true rfl) (Nat.le_of_ble_eq_true rfl) (Nat.le_of_ble_eq_true rfl) (Nat.le_of_ble_eq_true rfl) (D_184 W_prog_7_method_25_code_32 23 rfl rfl rfl) ?_
  rw [zmax_e g9 g10]
  refine lv_istore (lv' := [(8, .int (iI (zmax (zldv ((B 5 l0 344 l2) * 5000) (zmax (F 6 l1 6) 1)) (F 5 l0 2)))), (7, .int (iI (zldv ((B 5 l0 345 l2) * 5000) (zmax (F 6 l1 6) 1)))), (6, .int (iI (zldv ((B 5 l0 344 l2) * 5000) (zmax (F 6 l1 6) 1)))), (4, .long (lI (zmax (F 6 l1 6) 1))), (0, .ref (ad 5 l0 0)), (1, .ref (ad 6 l1 0)), (2, .int (iI l2)), (3, .int (iI l3))]) hx hb (D_54 W_prog_7_method_25_code_32 26 rfl rfl) hl (by decide) rfl (fun ls hl => ?_)
  refine lv_iload hx hb (D_21 W_prog_7_method_25_code_32 28 rfl rfl) (lv_at hl 1 rfl) ?_
  refine lv_sipush (v := iI 400) hx hb (D_17 W_prog_7_method_25_code_32 30 rfl rfl rfl) (by decide) ?_
  refine zadd hx hb (D_96 W_prog_7_method_25_code_64 1 rfl rfl) ?_
  refine lv_aload_n hx hb (D_42 W_prog_7_method_25_code_64 2 rfl rfl) rfl (lv_at hl 4 rfl) ?_
  refine zget (ci := 5) (C := RX5) (T := TX5) (v := .int (iI (F 5 l0 2))) (k := 2) hx hb hts inW_5 hown hK hZ g4.1 g4.2 rfl (by decide) k_6_68 rfl (D_180 W_prog_7_method_25_code_64 3 rfl rfl rfl) ?_
  refine lv_iload_n hx hb (D_29 W_prog_7_method_25_code_64 6 rfl rfl) rfl (lv_at hl 7 rfl) ?_
  refine zadd hx hb (D_96 W_prog_7_method_25_code_64 7 rfl rfl) ?_
  obtain ⟨g11, hf⟩ := gif hf
  obtain ⟨g12, hf⟩ := gif hf
  refine va_mmin hx hb (by rw [hml]; exact hl.1.symm) hown (hts _ k_6_134) (hts _ k_3_97) (hts _ k_1_3) (hts _ k_3_98) (Nat.le_of_ble_eq_true rfl) (Nat.le_of_ble_eq_true rfl) (Nat.le_of_ble_eq_true rfl) (Nat.le_of_ble_eq_true rfl) (D_184 W_prog_7_method_25_code_64 8 rfl rfl rfl) ?_
  rw [zmin_e g11 g12]
  refine lv_istore (lv' := [(9, .int (iI (zmin ((zldv ((B 5 l0 345 l2) * 5000) (zmax (F 6 l1 6) 1)) + 400) ((F 5 l0 2) + l3)))), (8, .int (iI (zmax (zldv ((B 5 l0 344 l2) * 5000) (zmax (F 6 l1 6) 1)) (F 5 l0 2)))), (7, .int (iI (zldv ((B 5 l0 345 l2) * 5000) (zmax (F 6 l1 6) 1)))), (6, .int (iI (zldv ((B 5 l0 344 l2) * 5000) (zmax (F 6 l1 6) 1)))), (4, .long (lI (zmax (F 6 l1 6) 1))), (0, .ref (ad 5 l0 0)), (1, .ref (ad 6 l1 0)), (2, .int (iI l2)), (3, .int (iI l3))]) hx hb (D_54 W_prog_7_method_25_code_64 11 rfl rfl) hl (by decide) rfl (fun ls hl => ?_)
  refine lv_iload hx hb (D_21 W_prog_7_method_25_code_64 13 rfl rfl) (lv_at hl 1 rfl) ?_
  refine lv_iload hx hb (D_21 W_prog_7_method_25_code_64 15 rfl rfl) (lv_at hl 0 rfl) ?_
  obtain ⟨g13, hf⟩ := gif hf
  obtain ⟨g14, hf⟩ := gif hf
  refine zlt (tgt := 85) hx hb g13 g14 (D_161 W_prog_7_method_25_code_64 17 rfl rfl rfl) (by decide) (fun h15 => ?_) (fun h15 => ?_)
  · replace hf := gpos hf h15
    refine lv_aload_n hx hb (D_42 W_prog_7_method_25_code_64 21 rfl rfl) rfl (lv_at hl 5 rfl) ?_
    refine zget (ci := 5) (C := RX5) (T := TX5) (v := .ref (ad 5 l0 (7 + 1))) (k := 7) hx hb hts inW_5 hown hK hZ g4.1 g4.2 rfl (by decide) k_6_76 rfl (D_180 W_prog_7_method_25_code_64 22 rfl rfl rfl) ?_
    refine lv_iconst (v := iI 2) hx hb (D_5 W_prog_7_method_25_code_64 25 rfl rfl) rfl ?_
    refine zaldQ (t := 0) (ci := 5) (k := 7) hx hb hK rfl hZ g4.1 g4.2 rfl (Nat.le_of_ble_eq_true rfl) (by decide) (by decide) (D_50 W_prog_7_method_25_code_64 26 rfl rfl) ?_
    refine W.eq (g2 := F0 m 91 ls [.ref (ad 5 l0 (342 + 1))]) rfl ?_
    refine lv_iload_n hx hb (D_28 W_prog_7_method_25_code_64 27 rfl rfl) rfl (lv_at hl 7 rfl) ?_
    refine zald (ci := 5) (k := 342) hx hb hK rfl hZ g4.1 g4.2 rfl (Nat.le_of_ble_eq_true rfl) g5.1 g5.2 (D_46 W_prog_7_method_25_code_64 28 rfl rfl) ?_
    obtain ⟨r16, F16, B16, hc16, hf⟩ := gbind hf
    refine va_calll (va_runS (As := [.int (iI (B 5 l0 342 l2))]) (rest := []) ⟨hx, hb, hml, hown, hts⟩ (c_Performance_turn (l := l) hc16) (va_cwS 1 hts (gdS k_9_7 k_9_8 k_1_20 k_9_9) rfl rfl rfl (by decide +kernel) ⟨Nat.le_of_ble_eq_true rfl, Nat.le_of_ble_eq_true rfl⟩) (zPS X hZ hS [.int (iI (B 5 l0 342 l2))]) rfl rfl hl.1 rfl (lv_room (Nat.le_of_ble_eq_true rfl)) (D_184 W_prog_7_method_25_code_64 29 rfl rfl rfl) ⟨Nat.le_of_ble_eq_true rfl, Nat.le_of_ble_eq_true rfl⟩) hS (fun q _ h => zAin X hS q h) (zAin X hS) (fun p16 u16 t16 H16 locs16 ht16 hv16 hw16 hB16 hz16 hk16 hS16 => ?_)
    have hZ16 := zBack X ht16 hB16
    subst hw16
    refine zl2iw hx hb (D_136 W_prog_7_method_25_code_96 0 rfl rfl) ?_
    refine lv_istore (lv' := [(10, .int (iI r16)), (9, .int (iI (zmin ((zldv ((B 5 l0 345 l2) * 5000) (zmax (F 6 l1 6) 1)) + 400) ((F 5 l0 2) + l3)))), (8, .int (iI (zmax (zldv ((B 5 l0 344 l2) * 5000) (zmax (F 6 l1 6) 1)) (F 5 l0 2)))), (7, .int (iI (zldv ((B 5 l0 345 l2) * 5000) (zmax (F 6 l1 6) 1)))), (6, .int (iI (zldv ((B 5 l0 344 l2) * 5000) (zmax (F 6 l1 6) 1)))), (4, .long (lI (zmax (F 6 l1 6) 1))), (0, .ref (ad 5 l0 0)), (1, .ref (ad 6 l1 0)), (2, .int (iI l2)), (3, .int (iI l3))]) hx hb (D_54 W_prog_7_method_25_code_96 1 rfl rfl) hl (by decide) rfl (fun ls hl => ?_)
    refine lv_aload_n hx hb (D_43 W_prog_7_method_25_code_96 3 rfl rfl) rfl (lv_at hl 7 rfl) ?_
    refine zget (ci := 6) (C := RX6) (T := TX6) (v := .ref (ad 6 l1 (0 + 1))) (k := 0) hx hb hts inW_6 hown hK hZ16 g1.1 g1.2 rfl (by decide) k_2_186 rfl (D_180 W_prog_7_method_25_code_96 4 rfl rfl rfl) ?_
    refine lv_aload_n hx hb (D_42 W_prog_7_method_25_code_96 7 rfl rfl) rfl (lv_at hl 6 rfl) ?_
    refine zget (ci := 5) (C := RX5) (T := TX5) (v := .ref (ad 5 l0 (7 + 1))) (k := 7) hx hb hts inW_5 hown hK hZ16 g4.1 g4.2 rfl (by decide) k_6_76 rfl (D_180 W_prog_7_method_25_code_96 8 rfl rfl rfl) ?_
    refine lv_iconst (v := iI 0) hx hb (D_3 W_prog_7_method_25_code_96 11 rfl rfl) rfl ?_
    refine zaldQ (t := 0) (ci := 5) (k := 7) hx hb hK rfl hZ16 g4.1 g4.2 rfl (Nat.le_of_ble_eq_true rfl) (by decide) (by decide) (D_50 W_prog_7_method_25_code_96 12 rfl rfl) ?_
    refine W.eq (g2 := F0 m 109 ls [.ref (ad 5 l0 (340 + 1)), .ref (ad 6 l1 (0 + 1))]) rfl ?_
    refine lv_iload_n hx hb (D_28 W_prog_7_method_25_code_96 13 rfl rfl) rfl (lv_at hl 8 rfl) ?_
    refine zald (ci := 5) (k := 340) hx hb hK rfl hZ16 g4.1 g4.2 rfl (Nat.le_of_ble_eq_true rfl) g5.1 g5.2 (D_46 W_prog_7_method_25_code_96 14 rfl rfl) ?_
    obtain ⟨g17, hf⟩ := gif hf
    refine zaldR (t := 4) (x := 6) (ci := 6) (k := 0) hx hb hK rfl rfl hZ16 g1.1 g1.2 rfl (Nat.le_of_ble_eq_true rfl) g17.1 g17.2 (D_50 W_prog_7_method_25_code_96 15 rfl rfl) ?_
    obtain ⟨g18, hf⟩ := gif hf
    refine zunrf g18.1 ?_
    refine zget (ci := 4) (C := RX4) (T := TX4) (v := .int (iI (F16 4 (B16 6 l1 0 (B16 5 l0 340 l2)) 2))) (k := 2) hx hb hts inW_4 hown hK hZ16 g18.1 g18.2 rfl (by decide) k_4_124 rfl (D_180 W_prog_7_method_25_code_96 16 rfl rfl rfl) ?_
    refine lv_istore (lv' := [(11, .int (iI (F16 4 (B16 6 l1 0 (B16 5 l0 340 l2)) 2))), (10, .int (iI r16)), (9, .int (iI (zmin ((zldv ((B 5 l0 345 l2) * 5000) (zmax (F 6 l1 6) 1)) + 400) ((F 5 l0 2) + l3)))), (8, .int (iI (zmax (zldv ((B 5 l0 344 l2) * 5000) (zmax (F 6 l1 6) 1)) (F 5 l0 2)))), (7, .int (iI (zldv ((B 5 l0 345 l2) * 5000) (zmax (F 6 l1 6) 1)))), (6, .int (iI (zldv ((B 5 l0 344 l2) * 5000) (zmax (F 6 l1 6) 1)))), (4, .long (lI (zmax (F 6 l1 6) 1))), (0, .ref (ad 5 l0 0)), (1, .ref (ad 6 l1 0)), (2, .int (iI l2)), (3, .int (iI l3))]) hx hb (D_54 W_prog_7_method_25_code_96 19 rfl rfl) hl (by decide) rfl (fun ls hl => ?_)
    refine lv_iload hx hb (D_21 W_prog_7_method_25_code_96 21 rfl rfl) (lv_at hl 3 rfl) ?_
    refine lv_iload hx hb (D_21 W_prog_7_method_25_code_96 23 rfl rfl) (lv_at hl 5 rfl) ?_
    refine zsub hx hb (D_100 W_prog_7_method_25_code_96 25 rfl rfl) ?_
    refine lv_iload hx hb (D_21 W_prog_7_method_25_code_96 26 rfl rfl) (lv_at hl 1 rfl) ?_
    refine zmul hx hb (D_104 W_prog_7_method_25_code_96 28 rfl rfl) ?_
    refine lv_istore (lv' := [(12, .int (iI (((zmax (zldv ((B 5 l0 344 l2) * 5000) (zmax (F 6 l1 6) 1)) (F 5 l0 2)) - (zldv ((B 5 l0 344 l2) * 5000) (zmax (F 6 l1 6) 1))) * r16))), (11, .int (iI (F16 4 (B16 6 l1 0 (B16 5 l0 340 l2)) 2))), (10, .int (iI r16)), (9, .int (iI (zmin ((zldv ((B 5 l0 345 l2) * 5000) (zmax (F 6 l1 6) 1)) + 400) ((F 5 l0 2) + l3)))), (8, .int (iI (zmax (zldv ((B 5 l0 344 l2) * 5000) (zmax (F 6 l1 6) 1)) (F 5 l0 2)))), (7, .int (iI (zldv ((B 5 l0 345 l2) * 5000) (zmax (F 6 l1 6) 1)))), (6, .int (iI (zldv ((B 5 l0 344 l2) * 5000) (zmax (F 6 l1 6) 1)))), (4, .long (lI (zmax (F 6 l1 6) 1))), (0, .ref (ad 5 l0 0)), (1, .ref (ad 6 l1 0)), (2, .int (iI l2)), (3, .int (iI l3))]) hx hb (D_54 W_prog_7_method_25_code_96 29 rfl rfl) hl (by decide) rfl (fun ls hl => ?_)
    refine lv_iload hx hb (D_21 W_prog_7_method_25_code_96 31 rfl rfl) (lv_at hl 4 rfl) ?_
    refine lv_istore (lv' := [(13, .int (iI (zmax (zldv ((B 5 l0 344 l2) * 5000) (zmax (F 6 l1 6) 1)) (F 5 l0 2)))), (12, .int (iI (((zmax (zldv ((B 5 l0 344 l2) * 5000) (zmax (F 6 l1 6) 1)) (F 5 l0 2)) - (zldv ((B 5 l0 344 l2) * 5000) (zmax (F 6 l1 6) 1))) * r16))), (11, .int (iI (F16 4 (B16 6 l1 0 (B16 5 l0 340 l2)) 2))), (10, .int (iI r16)), (9, .int (iI (zmin ((zldv ((B 5 l0 345 l2) * 5000) (zmax (F 6 l1 6) 1)) + 400) ((F 5 l0 2) + l3)))), (8, .int (iI (zmax (zldv ((B 5 l0 344 l2) * 5000) (zmax (F 6 l1 6) 1)) (F 5 l0 2)))), (7, .int (iI (zldv ((B 5 l0 345 l2) * 5000) (zmax (F 6 l1 6) 1)))), (6, .int (iI (zldv ((B 5 l0 344 l2) * 5000) (zmax (F 6 l1 6) 1)))), (4, .long (lI (zmax (F 6 l1 6) 1))), (0, .ref (ad 5 l0 0)), (1, .ref (ad 6 l1 0)), (2, .int (iI l2)), (3, .int (iI l3))]) hx hb (D_54 W_prog_7_method_25_code_128 1 rfl rfl) hl (by decide) rfl (fun ls hl => ?_)
    exact b_Performance_mixSound_131 X hf hZ16 hS16 (lv_sub hl [0, 1, 2, 3, 4, 6, 7, 9, 11] rfl)
  · replace hf := gneg hf h15
    cases hf
    exact W.vret hx hb hr (fun t ht hW => ⟨⟨(), rfl, trivial, by rw [ht]; exact hZ, va_K.moved hW.alike hK⟩, hS.F ht⟩) hS.2.2 (D_177 W_prog_7_method_25_code_64 20 rfl rfl) hlk

